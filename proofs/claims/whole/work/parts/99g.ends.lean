/-! CONSTRUCTORS: their beginning and their end -/
section ZJ
variable {p : Program} {l : Launch} {e : Env} {R : Room} {s : State} {m : MethodId} {args : Array Value} {below : List Frame} {meth : Method} {c : Code} {Q : State → Prop} {D : va_G} {A : Nat → Prop} {nL : Nat} {cc : ByteArray} {own : String} {ct : Nat → ClassId} {kw ss : Nat}
variable {H : Heap} {locs : List Loc} {cells slots pc : Nat} {ls : Array Slot} {ws : va_W} {rest : List Value}
theorem kObj (C0 : kCx p s m args meth c D A nL cc own ct kw ss) {h0 idx : Nat} (hl : ls[0]? = some (.val (.ref h0))) (hsz : ls.size = nL) (hlink : Cond.methodLink own idx objectInit ∈ zTs) (hi : Cond.instanceMethod objectInit ∈ zTs) (hcd : Cond.code objectInit ⟨#[0xb1]⟩ 1 none ∈ zTs) (hf : 1 ≤ R.frames) (hlo : 20 ≤ R.locals) (d0 : decode cc 0 = .ok (.aload_n 0, 1)) (d1 : decode cc 1 = .ok (.invokespecial idx, 3))
    (kk : W p l e R s m args below meth c H locs cells slots Q (F0 m 4 ls [])) : W p l e R s m args below meth c H locs cells slots Q (F0 m 0 ls []) := by
  obtain ⟨hx, hb, hml, hown, hts, hK, hin, hSt, hA⟩ := C0
  refine lv_aload_n hx hb d0 rfl hl ?_
  refine W.objInit hx hb hown (hts _ hlink) (hts _ hi) (hts _ hcd) rfl (by rw [hml]; exact hsz) rfl d1 ?_ ?_ ?_
  · exact hf
  · exact Nat.le_trans (Nat.le_of_ble_eq_true rfl) hlo
  · exact W.eq (g2 := F0 m 4 ls []) rfl kk
theorem kDone (C0 : kCx p s m args meth c D A nL cc own ct kw ss) (hret : meth.sig.returnType = none) (hlocks : meth.locks = false) {h0 k mc ms : Nat} {σ : zH} {P : zP} (ad : Nat → Nat) (hk : ad k = h0) (hP : va_P D vwCl (zw ad ct σ P) H) (hD : va_D A (zw ad ct σ P)) (hS : va_S A s.heap H locs) (hc : cells ≤ mc) (hs : slots ≤ ms) (hdg : decode cc pc = .ok (.return_, 1)) : W p l e R s m args below meth c H locs cells slots (MQ below (va_Qv (fun ad : Nat → Nat => ad k = h0) (fun ad t => va_P D vwCl (zw ad ct σ P) t.heap ∧ va_D A (zw ad ct σ P)) A) args s mc ms A) (F0 m pc ls []) := by
  obtain ⟨hx, hb, hml, hown, hts, hK, hin, hSt, hA⟩ := C0
  refine W.widen (k := mc) (n := ms) hc hs ?_
  exact W.vret hx hb hret (fun t ht hW => ⟨⟨ad, rfl, hk, by rw [ht]; exact hP, hD⟩, hS.F ht⟩) hS.2.2 hdg hlocks
theorem kStart {M : zMt} {ci k mc ms : Nat} {fs0 as : List Value} {σ : zH} {P : zP} {rm : Room} (hok : zMok M) (hr0 : M.2.2.2.1 = 0) (hnm : M.1.name = "<init>") (hwd : ∀ h0 : Nat, (lg_sl (.ref h0 :: as)).length ≤ M.2.2.1)
    (body : ∀ (l : Launch) (D : va_G) (ct : Nat → ClassId) (kw ss h0 : Nat) (p : Program) (e : Env) (s : State) (m : MethodId) (args : Array Value) (below : List Frame) (meth : Method) (c : Code) (A : Nat → Prop) (ls : Array Slot), kCx p s m args meth c D A M.2.2.1 M.2.1 M.2.2.2.2 ct kw ss → meth.sig.returnType = none → meth.locks = false → va_P D vwCl [(h0, .inr (ci, fs0))] s.heap → va_D A [(h0, .inr (ci, fs0))] → lv_has ls M.2.2.1 (lv_args 0 (.ref h0 :: as)) →
      W p l e rm s m args below meth c s.heap [] 0 0 (MQ below (va_Qv (fun ad : Nat → Nat => ad k = h0) (fun ad t => va_P D vwCl (zw ad ct σ P) t.heap ∧ va_D A (zw ad ct σ P)) A) args s mc ms A) (F0 m 0 ls [])) : zCon M ci k fs0 as σ P rm mc ms := by
  intro l D ct kw ss h0 sz
  have hz : zws M = .code M.1 M.2.1 M.2.2.1 none :: zTs := by unfold zws; rw [hr0]; rfl
  refine Met.ofW (cc := M.2.1) (maxL := M.2.2.1) (ret := none) hok.1 hz ?_
  intro p e s m args below meth c s₁ B hml hv
  obtain ⟨hargs, hsz, hP, hK, hSt⟩ := hv
  subst hsz
  have hts : ∀ w ∈ zTs, w.before args s = true := fun w hw => atoms_spec (ws := zws M) B.pre w (List.mem_cons_of_mem _ hw)
  have hown := findClass_of_methodNamed B.named
  rw [hok.2.2.2.2.2.2] at hown
  have hin : meth.name = "<init>" := by rw [← hnm]; exact (name_of_methodNamed B.named B.method).1
  have hl := lv_entry (.ref h0 :: as) (n := M.2.2.1) (hwd h0)
  have hD0 : va_D (fun _ => True) [(h0, (.inr (ci, fs0) : va_E))] := by
    constructor
    · intro i j x y hx hy _
      have h1 := (List.getElem?_eq_some_iff.mp hx).1
      have h2 := (List.getElem?_eq_some_iff.mp hy).1
      simp only [List.length_cons, List.length_nil] at h1 h2
      omega
    · intro _ _ _
      trivial
  have C : kCx p s m args meth c D (va_A [(h0, .inr (ci, fs0))] s.heap.size) M.2.2.1 M.2.1 M.2.2.2.2 ct kw ss := ⟨B.exec, B.bytes, hml, hown, hts, hK, hin, hSt, fun q hq => Or.inr hq⟩
  have hw := body l D ct kw ss h0 p e s m args below meth c _ _ C B.returns B.notSynchronized hP hD0.self hl
  have hq : entryFrame m args M.2.2.1 = F0 m 0 ((lg_sl (.ref h0 :: as) ++ List.replicate (M.2.2.1 - (lg_sl (.ref h0 :: as)).length) Slot.unset).toArray) [] := by
    rw [hargs, lg_entry_eq]
  rw [hq]
  exact hw
end ZJ
