/-! A CONSTRUCTOR that makes nothing, but fills its object; fields that change -/
section ZN0
variable {p : Program} {l : Launch} {e : Env} {R : Room} {s : State} {m : MethodId} {args : Array Value} {below : List Frame} {meth : Method} {c : Code} {Q : State → Prop} {D : va_G} {A : Nat → Prop} {nL : Nat} {cc : ByteArray} {own : String} {ct : Nat → ClassId} {kw ss : Nat}
variable {H : Heap} {locs : List Loc} {cells slots pc : Nat} {ls : Array Slot} {ws : va_W} {rest : List Value}
theorem kPutV (C0 : kCx p s m args meth c D A nL cc own ct kw ss) (hP : va_P D vwCl ws H) (hD : va_D A ws) (hS : va_S A s.heap H locs) (q0 : Nat) {a ci k idx : Nat} {fs : List Value} {v : Value} {C : String} {T : u_T} {N : Nat} (ty0 : Nat → FieldType) (hz : ∀ w ∈ u_ws C T N, w ∈ zTs) (hty : ∀ k, k < N → parseFieldDescriptor (T k).2.2.1 = some (ty0 k)) (hnm : ∀ a, a < N → ∀ b, b < N → a ≠ b → (T a).2.1 ≠ (T b).2.1) (hc : vwCl[ci]? = some (C, T, N)) (he : ws[q0]? = some (a, .inr (ci, fs))) (hk : k < N) (hlink : Cond.fieldLink own idx (T k).1 (T k).2.1 (T k).2.2.1 ∈ zTs) (hfin : (T k).2.2.2 = false) (hn : narrow (ty0 k) v = v) (hfit : fits (ty0 k) v = true) (hl : k < fs.length) (hdg : decode cc pc = .ok (.putfield idx, 3))
    (kk : ∀ (H1 : Heap) (locs1 : List Loc), va_P D vwCl (ws.set q0 (a, .inr (ci, fs.set k v))) H1 → va_D A (ws.set q0 (a, .inr (ci, fs.set k v))) → va_S A s.heap H1 locs1 → W p l e R s m args below meth c H1 locs1 cells slots Q (F0 m (pc + 3) ls rest)) : W p l e R s m args below meth c H locs cells slots Q (F0 m pc ls (v :: .ref a :: rest)) := by
  obtain ⟨hx, hb, hml, hown, hts, hK, hin, hSt, hA⟩ := C0
  exact va_put hx hb hts hz ty0 hty hnm hown hK hP hD hS q0 he hc k hk (hts _ hlink) (fun _ h => h) hfin (hty k hk) hn hfit hl hdg kk

/-- the contract of a constructor that only fills its object -/
def zConW (M : zMt) (ci : Nat) (fs0 fs1 : List Value) (as : List Value) (rm : Room) : Prop := ∀ (l : Launch) (D : va_G) (ct : Nat → ClassId) (kw ss h0 sz : Nat), Met l M.1 (zws M) rm (va_Pc (.ref h0 :: as) (fun U => U.heap.size = sz ∧ va_P D vwCl [(h0, .inr (ci, fs0))] U.heap ∧ va_K D vwCl (ztys ct) U ∧ zSk kw ss (va_A [(h0, .inr (ci, fs0))] sz) U)) (va_Qv (fun _ : Unit => True) (fun _ t => va_P D vwCl [(h0, .inr (ci, fs1))] t.heap) (va_A [(h0, .inr (ci, fs0))] sz)) 0 0 (va_A [(h0, .inr (ci, fs0))] sz)
/-- the call of a constructor -/
theorem kCallW (C0 : kCx p s m args meth c D A nL cc own ct kw ss) {ci idx n q : Nat} {M : zMt} {fs0 fs1 as : List Value} {rm : Room} (hM : zConW M ci fs0 fs1 as rm) (hP : va_P D vwCl (ws ++ [(q, .inr (ci, fs0))]) H) (hD : va_D A (ws ++ [(q, .inr (ci, fs0))])) (hS : va_S A s.heap H locs) (hok : zMok M) (h0 : M.2.2.2.1 = 0) (hrc : rm.cells = 0) (hrs : rm.slots = 0) (hnm : M.1.name = "<init>") (hlink : Cond.methodLink own idx M.1 ∈ zTs) (hin1 : Cond.instanceMethod M.1 ∈ zTs) (hnp : znp M.1 = some n) (hn : as.length = n) (hl : ls.size = nL) (hroom : rm.frames + 1 ≤ R.frames ∧ 8 + (M.2.2.1 + 11) + rm.locals ≤ R.locals) (hwd : (rest.map fun v => v.category).sum ≤ 8) (hf : cells + 0 ≤ R.cells ∧ slots + 0 ≤ R.slots) (hd1 : decode cc pc = .ok (.invokespecial idx, 3)) {st0 : List Value} (hst : st0 = as.reverse ++ .ref q :: rest)
    (kk : ∀ (H1 : Heap) (locs1 : List Loc), va_P D vwCl (ws ++ [(q, .inr (ci, fs1))]) H1 → va_D A (ws ++ [(q, .inr (ci, fs1))]) → va_S A s.heap H1 locs1 → W p l e R s m args below meth c H1 locs1 (cells + 0) (slots + 0) Q (F0 m (pc + 3) ls rest)) : W p l e R s m args below meth c H locs cells slots Q (F0 m pc ls st0) := by
  obtain ⟨hx, hb, hml, hown, hts, hK, hin, hSt, hA⟩ := id C0
  have hC : [ws.length].map (fun i => (ws ++ [(q, (.inr (ci, fs0) : va_E))])[i]?) = [(q, (.inr (ci, fs0) : va_E))].map some := by simp
  have hR : (List.range' 0 ws.length).map (fun i => (ws ++ [(q, (.inr (ci, fs0) : va_E))])[i]?) = ws.map some := by
    apply List.ext_getElem?
    intro j
    simp only [List.getElem?_map, List.getElem?_range', Nat.zero_add]
    by_cases hj : j < ws.length
    · simp [hj, List.getElem?_append_left hj]
    · simp [hj]
  have hPc : va_P D vwCl [(q, (.inr (ci, fs0) : va_E))] H := fun i x hx => by
    have hi : i < 1 := (List.getElem?_eq_some_iff.mp hx).1
    rw [show i = 0 by omega] at hx
    cases hx
    exact hP ws.length _ (by simp)
  have hFc := va_free (wc := [(q, (.inr (ci, fs0) : va_E))]) hD hS hA [ws.length] hC
  have hrm : va_Run p l e R s m args below meth c H locs cells slots 0 0 (F0 m pc ls st0) rest _ _ := va_runI (As := as) (rest := rest) (bytes := M.2.1) (maxL := M.2.2.1) (n := n) (index := idx) ⟨hx, hb, hml, hown, hts⟩ (hM l D ct kw ss q H.size) ?_ ⟨fun a U g mk z => by obtain ⟨q0, q1, q2, q3, q4⟩ := z; exact ⟨q0, q1, q2, va_K.moved (u := U) (U := U.calling g mk a) (Vm.Alike.refl U.vm) q3, zSk_calling q4⟩, fun U hU hW => ⟨rfl, by rw [hU], by rw [hU]; exact hPc, hK.moved hW.alike, zSk_moved hSt hW hU hS hFc⟩⟩ rfl hn hl hst (lv_room hwd) hd1 hf
  · refine va_callv hrm hS (fun z _ h => hFc z h) hFc (fun u t H1 locs1 ht hvm hw hB hz1 hk1 hS1 => ?_)
    have hP1 : va_P D vwCl [(q, (.inr (ci, fs1) : va_E))] t.heap := hB
    rw [ht] at hP1
    have hD1 : va_D (va_A [(q, (.inr (ci, fs0) : va_E))] H.size) [(q, (.inr (ci, fs1) : va_E))] := va_D_same (W := [(q, (.inr (ci, fs0) : va_E))]) (va_D.self (A := A) (by
      constructor
      · intro i j x y hx hy _
        have h1 := (List.getElem?_eq_some_iff.mp hx).1
        have h2 := (List.getElem?_eq_some_iff.mp hy).1
        simp only [List.length_cons, List.length_nil] at h1 h2
        omega
      · intro i x hx
        have hi : i < 1 := (List.getElem?_eq_some_iff.mp hx).1
        rw [show i = 0 by omega] at hx
        cases hx
        exact hD.2 ws.length _ (by simp))) rfl
    obtain ⟨hP2, hD2⟩ := va_join hP hD [ws.length] (List.range' 0 ws.length) hC hR (nd_range _ _) (fun i hi hj => by simp only [List.mem_range', List.mem_singleton] at hi hj; omega) hk1 hFc hP1 hD1
    exact kk H1 locs1 hP2 hD2 hS1
  · refine cwI n hts (fun w hw => ?_) (show zws M = .code M.1 M.2.1 M.2.2.1 none :: zTs by unfold zws; rw [h0]; rfl) hrc hrs ?_ (hts _ hlink) (hts _ hin1) ?_ ?_ hroom
    · exact zGood_ws hok w hw
    · exact hts _ hok.2.2.2.2.1
    · exact hnm
    · exact ⟨hok.2.1, hok.2.2.1, hnp⟩

theorem kDoneW (C0 : kCx p s m args meth c D A nL cc own ct kw ss) (hret : meth.sig.returnType = none) (hlocks : meth.locks = false) {mc ms : Nat} {W1 : va_W} (hP : va_P D vwCl W1 H) (hS : va_S A s.heap H locs) (hc : cells ≤ mc) (hs : slots ≤ ms) (hdg : decode cc pc = .ok (.return_, 1)) : W p l e R s m args below meth c H locs cells slots (MQ below (va_Qv (fun _ : Unit => True) (fun _ t => va_P D vwCl W1 t.heap) A) args s mc ms A) (F0 m pc ls []) := by
  obtain ⟨hx, hb, hml, hown, hts, hK, hin, hSt, hA⟩ := C0
  refine W.widen (k := mc) (n := ms) hc hs ?_
  exact W.vret hx hb hret (fun t ht hW => ⟨⟨(), rfl, trivial, by show va_P D vwCl W1 t.heap; rw [ht]; exact hP⟩, hS.F ht⟩) hS.2.2 hdg hlocks

theorem kStartW {M : zMt} {ci : Nat} {fs0 fs1 as : List Value} {rm : Room} (hok : zMok M) (hr0 : M.2.2.2.1 = 0) (hnm : M.1.name = "<init>") (hwd : ∀ h0 : Nat, (lg_sl (.ref h0 :: as)).length ≤ M.2.2.1)
    (body : ∀ (l : Launch) (D : va_G) (ct : Nat → ClassId) (kw ss h0 : Nat) (p : Program) (e : Env) (s : State) (m : MethodId) (args : Array Value) (below : List Frame) (meth : Method) (c : Code) (A : Nat → Prop) (ls : Array Slot), kCx p s m args meth c D A M.2.2.1 M.2.1 M.2.2.2.2 ct kw ss → meth.sig.returnType = none → meth.locks = false → va_P D vwCl [(h0, .inr (ci, fs0))] s.heap → va_D A [(h0, .inr (ci, fs0))] → lv_has ls M.2.2.1 (lv_args 0 (.ref h0 :: as)) →
      W p l e rm s m args below meth c s.heap [] 0 0 (MQ below (va_Qv (fun _ : Unit => True) (fun _ t => va_P D vwCl [(h0, .inr (ci, fs1))] t.heap) A) args s 0 0 A) (F0 m 0 ls [])) : zConW M ci fs0 fs1 as rm := by
  intro l D ct kw ss h0 sz
  have hz : zws M = .code M.1 M.2.1 M.2.2.1 none :: zTs := by unfold zws; rw [hr0]; rfl
  refine Met.ofW (cc := M.2.1) (maxL := M.2.2.1) (ret := none) hok.1 hz ?_
  intro p e s m args below meth c s₁ B hml hv
  obtain ⟨hargs, hsz, hP, hK, hSt⟩ := hv
  subst hsz
  have hts : ∀ w ∈ zTs, w.before args s = true := fun w hw => atoms_spec (ws := zws M) B.pre w (List.mem_cons_of_mem _ hw)
  have hown := findClass_of_methodNamed B.named
  rw [hok.2.2.2.2.2.2] at hown
  have hin : meth.name = "<init>" := by rw [← hnm]; exact (name_of_methodNamed B.named B.method).1
  have hl := lv_entry (.ref h0 :: as) (n := M.2.2.1) (hwd h0)
  have hD0 : va_D (fun _ => True) [(h0, (.inr (ci, fs0) : va_E))] := by
    constructor
    · intro i j x y hx hy _
      have h1 := (List.getElem?_eq_some_iff.mp hx).1
      have h2 := (List.getElem?_eq_some_iff.mp hy).1
      simp only [List.length_cons, List.length_nil] at h1 h2
      omega
    · intro _ _ _
      trivial
  have C : kCx p s m args meth c D (va_A [(h0, .inr (ci, fs0))] s.heap.size) M.2.2.1 M.2.1 M.2.2.2.2 ct kw ss := ⟨B.exec, B.bytes, hml, hown, hts, hK, hin, hSt, fun q hq => Or.inr hq⟩
  have hw := body l D ct kw ss h0 p e s m args below meth c _ _ C B.returns B.notSynchronized hP hD0.self hl
  have hq : entryFrame m args M.2.2.1 = F0 m 0 ((lg_sl (.ref h0 :: as) ++ List.replicate (M.2.2.1 - (lg_sl (.ref h0 :: as)).length) Slot.unset).toArray) [] := by
    rw [hargs, lg_entry_eq]
  rw [hq]
  exact hw

end ZN0
