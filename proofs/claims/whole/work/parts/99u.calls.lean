/-! THE PURE MACHINE seen from walked code: calls, fields, rows; what stays -/
section ZCV
variable {p : Program} {l : Launch} {e : Env} {R : Room} {s : State} {m : MethodId} {args : Array Value} {below : List Frame} {meth : Method} {c : Code} {Q : State → Prop} {D : va_G} {A : Nat → Prop} {nL : Nat} {cc : ByteArray} {own : String} {ad : Nat → Nat} {ct : Nat → ClassId} {kw ss : Nat} {σ σ2 : zH} {P : zP}
variable {H : Heap} {locs : List Loc} {cells slots pc : Nat} {ls : Array Slot} {rest : List Value}
theorem keepP {ws : va_W} {A1 : Nat → Prop} {H1 : Heap} (hP : va_P D vwCl ws H) (hk : ∀ q : Nat, q < H.size → ¬ A1 q → H1[q]? = H[q]?) (hn : ∀ x ∈ ws, ¬ A1 x.1) : va_P D vwCl ws H1 := fun k q hq => (hP k q hq).kept (hk q.1 (hP k q hq).lt (hn q (List.mem_of_getElem? hq)))
theorem moreP {ws : va_W} {H1 : Heap} (hP : va_P D vwCl ws H) (hk : ∀ q : Nat, q < H.size → H1[q]? = H[q]?) : va_P D vwCl ws H1 := fun k q hq => (hP k q hq).kept (hk q.1 (hP k q hq).lt)
/-- the call of an object's method with a number as its answer -/
theorem zCallI {cm cr n idx c0 k0 : Nat} {M : zMt} (hM : zmt cm = M) {t : List zV} {x : Int} {st0 : List Value} (hS0 : CallFix p m c cc nL s args zTs own) (hK : va_K D vwCl (ztys ct) s) (hSt : zSt kw ss A s) (hA : ∀ q : Nat, s.heap.size ≤ q → A q) (hP : va_P D vwCl (zw ad ct σ P) H) (hD : va_D A (zw ad ct σ P)) (hS : va_S A s.heap H locs) (hap : zapart P) (hcl : zcl P) (hH : okH P σ) (hobj : (k0, c0, 0) ∈ P) (hc0 : c0 < 100) (ht : okS P t) (hev : zsem cm 0 cr (.inr (.inr (.inr (c0, 0, k0))) :: t) [] σ = some (σ2, x)) (hok : zMok M) (hq1 : (vwCl[c0]?).map (fun q => q.1) = some M.1.cls) (hlink : Cond.methodLink own idx M.1 ∈ zTs) (hia : Cond.instanceMethod M.1 ∈ zTs) (hse : Cond.selects M.1.cls M.1 M.1 ∈ zTs) (hnp : znp M.1 = some n) (hmr : M.2.2.2.1 = 1 ∨ M.2.2.2.1 = 3) (hn : t.length = n) (hl : ls.size = nL) (hst : st0 = (t.map (ztr ad kw ss)).reverse ++ .ref (ad k0) :: rest) (hroom : (zroom cr).frames + 1 ≤ R.frames ∧ 8 + (M.2.2.1 + 11) + (zroom cr).locals ≤ R.locals) (hwd : (rest.map fun v => v.category).sum ≤ 8) (hf : cells ≤ R.cells ∧ slots ≤ R.slots) (hdg : decode cc pc = .ok (.invokevirtual idx, 3))
    (kk : ∀ (H1 : Heap) (locs1 : List Loc), va_P D vwCl (zw ad ct σ2 P) H1 → va_D A (zw ad ct σ2 P) → okH P σ2 → H.size ≤ H1.size → (∀ q : Nat, q < H.size → ¬ zA ad P H.size q → H1[q]? = H[q]?) → va_S A s.heap H1 locs1 → W p l e R s m args below meth c H1 locs1 cells slots Q (F0 m (pc + 3) ls (.int (Int32.ofInt x) :: rest))) : W p l e R s m args below meth c H locs cells slots Q (F0 m pc ls st0) := by
  subst hM
  have hsub := zA_of hD hA hS
  have hr := zRunV (l := l) (below := below) (e := e) (R := R) (meth := meth) (slots := slots) (cells := cells) hS0 hK hSt hA hP hD hS hap hcl hH hobj hc0 ht hev hok hq1 hlink hia hse hnp hn hl hst hroom hwd hf hdg
  rcases hmr with h | h
  all_goals
    rw [h] at hr
    exact va_calli (a := (Value.ref (ad k0) :: t.map (ztr ad kw ss)).toArray) hr hS (fun q _ h => hsub q h) hsub (fun r u t H1 locs1 ht hvm hw hB hz1 hk1 hS1 => by
      obtain ⟨rfl, hv, hh⟩ := hw
      exact kk H1 locs1 (by rw [← ht]; exact hB) (zwD_cong hD) hh hz1 hk1 hS1)
/-- a field is read -/
theorem zGet {c0 k0 slot idx N : Nat} {C : String} {T : u_T} {v : Value} (hS0 : CallFix p m c cc nL s args zTs own) (hK : va_K D vwCl (ztys ct) s) (hP : va_P D vwCl (zw ad ct σ P) H) (hobj : (k0, c0, 0) ∈ P) (hc0 : c0 < 100) (hz : ∀ w ∈ u_ws C T N, w ∈ zTs) (hc : vwCl[c0]? = some (C, T, N)) (hk : slot < N) (hnf : slot < znf c0) (hlink : Cond.fieldLink own idx (T slot).1 (T slot).2.1 (T slot).2.2.1 ∈ zTs) (hv : zfv ad σ k0 c0 slot = v) (hdg : decode cc pc = .ok (.getfield idx, 3))
    (kk : W p l e R s m args below meth c H locs cells slots Q (F0 m (pc + 3) ls (v :: rest))) : W p l e R s m args below meth c H locs cells slots Q (F0 m pc ls (.ref (ad k0) :: rest)) := by
  obtain ⟨hx, hb, hml, hown, hts⟩ := hS0
  obtain ⟨i, hi, hzi⟩ := zw_at (ad := ad) (ct := ct) (σ := σ) hobj
  rw [zcell_obj hc0] at hzi
  refine va_get (D := D) (ci := c0) (v := v) (C := C) (T := T) (N := N) hx hb hts hz hown hK hP i hzi hc slot hk (hts _ hlink) (fun _ h9 => h9) ?_ hdg kk
  rw [List.getElem?_map, List.getElem?_range hnf]
  exact congrArg some hv
/-- a number of a row is read -/
theorem zAld {k len : Nat} {i : Int} (hS0 : CallFix p m c cc nL s args zTs own) (hK : va_K D vwCl (ztys ct) s) (hP : va_P D vwCl (zw ad ct σ P) H) (hrow : (k, 100, len) ∈ P) (hr : r32 i) (hin : zin i len = true) (hdg : decode cc pc = .ok (.iaload, 1))
    (kk : W p l e R s m args below meth c H locs cells slots Q (F0 m (pc + 1) ls (.int (Int32.ofInt (σ k i.toNat)) :: rest))) : W p l e R s m args below meth c H locs cells slots Q (F0 m pc ls (.int (Int32.ofInt i) :: .ref (ad k) :: rest)) := by
  obtain ⟨hx, hb, hml, hown, hts⟩ := hS0
  obtain ⟨q, hq, hzq⟩ := zw_at (ad := ad) (ct := ct) (σ := σ) hrow
  obtain ⟨h1, h2⟩ := vp_in_of_zin hr hin
  refine va_iald (D := D) hx hb hK hP q 0 (a := ad k) (cA := ct 100) (n := len) (f := fun j => Int32.ofInt (σ k j)) hzq rfl h1 hdg ?_
  rw [h2]
  exact kk
end ZCV
/-- the words of a throw that are no good ones -/
def zNSE : String := "java/util/NoSuchElementException"
def zUp : List String := ["java/lang/RuntimeException", "java/lang/Exception"]
def zTr (A : Nat → Prop) (U : State) : Prop := (va_Nw (.declares (Bundle.init0 "java/lang/RuntimeException")) U ∧ va_Nw (.declares (Bundle.init0 "java/lang/Exception")) U ∧ va_Nw (.declares (Bundle.init0 "java/lang/Throwable")) U ∧ va_Nw (.castable zNSE zNSE) U) ∧ vx_Zq Bundle.tN "UNASSIGNED_STACK" Bundle.steD A U U.heap ∧ vx_Zq Bundle.tN "SUPPRESSED_SENTINEL" Bundle.listD A U U.heap
theorem zTr_moved {A A' : Nat → Prop} {s U : State} {H : Heap} {locs : List Loc} (h : zTr A s) (hW : s.WarmedH U.vm) (hU : U.heap = H) (hS : va_S A s.heap H locs) (hA : ∀ q, A' q → A q) : zTr A' U := by
  obtain ⟨⟨h1, h2, h3, h4⟩, h5, h6⟩ := h
  have hk : ∀ a : Nat, a < s.heap.size → ¬ A a → U.heap[a]? = s.heap[a]? := fun a h1 h2 => by rw [hU]; exact hS.2.1 a h1 h2
  exact ⟨⟨h1.warmD hW, h2.warmD hW, h3.warmD hW, h4.warmC hW⟩, ((h5.moved hW.alike).kept hk).narrow hA, ((h6.moved hW.alike).kept hk).narrow hA⟩
theorem zTr_calling {A : Nat → Prop} {U : State} {g : JFrame} {mk : MethodId} {a : Array Value} (h : zTr A U) : zTr A (U.calling g mk a) := by
  obtain ⟨⟨h1, h2, h3, h4⟩, h5, h6⟩ := h
  exact ⟨⟨va_Nw.same (u := U) (U := U.calling g mk a) rfl rfl h1, va_Nw.same (u := U) (U := U.calling g mk a) rfl rfl h2, va_Nw.same (u := U) (U := U.calling g mk a) rfl rfl h3, va_Nw.same (u := U) (U := U.calling g mk a) rfl rfl h4⟩, vx_Zq.moved (u := U) (U := U.calling g mk a) (Vm.Alike.refl U.vm) h5, vx_Zq.moved (u := U) (U := U.calling g mk a) (Vm.Alike.refl U.vm) h6⟩
theorem zx_good : ∀ w ∈ (vx_at0 RX10 170 zNSE zUp).filter goodWord, w ∈ zTs := by
  have h : ∀ w ∈ (vx_at0 RX10 170 zNSE zUp).filter goodWord, w ∈ lw_tbl := by decide +kernel
  intro w hw
  exact zTs_mem (h w hw) (List.mem_filter.mp hw).2
theorem zx_bad : ∀ w ∈ (vx_at0 RX10 170 zNSE zUp).filter (fun w => !goodWord w), w ∈ [Cond.declares (Bundle.init0 "java/lang/RuntimeException"), Cond.declares (Bundle.init0 "java/lang/Exception"), Cond.declares (Bundle.init0 "java/lang/Throwable"), Cond.castable zNSE zNSE] := by decide +kernel
theorem zx_all {args : Array Value} {s : State} {A : Nat → Prop} (hts : ∀ w ∈ zTs, w.before args s = true) (hT : zTr A s) : ∀ w ∈ vx_at0 RX10 170 zNSE zUp, w.before args s = true := by
  obtain ⟨⟨h1, h2, h3, h4⟩, -⟩ := hT
  refine vx_hat (fun w hw => hts w (zx_good w hw)) zx_bad (fun w hw => ?_)
  simp only [List.mem_cons, List.not_mem_nil, or_false] at hw
  rcases hw with rfl | rfl | rfl | rfl
  · exact va_Nw.use rfl h1
  · exact va_Nw.use rfl h2
  · exact va_Nw.use rfl h3
  · exact va_Nw.use rfl h4
theorem zx_ot : ∀ w ∈ Cond.classLink RX10 168 zNSE :: Cond.initialized zNSE :: vx_at0 RX10 170 zNSE zUp, vx_ot w = true := by decide +kernel
