/-! CONSTRUCTORS: the rows that they are walked with -/
section ZB
/-- the calls of the private constructors of nest mates -/
def kNl : List (String × Nat × MethodName) := [("RiverText$Country", 11, yX6_init), ("RiverText", 18, yX1_init), ("RiverText$Image", 11, yX1_init), ("RiverText", 66, yX3_init), ("RiverText", 80, yX4_init), ("RiverText", 77, yX5_init), ("RiverText", 56, yX7_init), ("RiverText$Image", 29, yX7_init), ("RiverText", 11, yX9_init)]
def kNs (U : State) : Prop := ∀ q ∈ kNl, va_Nw (.methodLinkNest q.1 q.2.1 q.2.2 "RiverText") U
def zSk (kw ss : Nat) (A : Nat → Prop) (U : State) : Prop := zSt kw ss A U ∧ kNs U ∧ va_AO RX8 U ∧ va_AO RX5 U
theorem zSk_moved {kw ss : Nat} {A A' : Nat → Prop} {s U : State} {H : Heap} {locs : List Loc} (h : zSk kw ss A s) (hW : s.WarmedH U.vm) (hU : U.heap = H) (hS : va_S A s.heap H locs) (hA : ∀ q, A' q → A q) : zSk kw ss A' U := ⟨zSt_moved h.1 hW hU hS hA, fun q hq => va_Nw.warmM hW (h.2.1 q hq), h.2.2.1.moved hW.alike, h.2.2.2.moved hW.alike⟩
theorem zSk_calling {kw ss : Nat} {A : Nat → Prop} {U : State} {g : JFrame} {mk : MethodId} {a : Array Value} (h : zSk kw ss A U) : zSk kw ss A (U.calling g mk a) := ⟨zSt_calling h.1, fun q hq => va_Nw.same (u := U) (U := U.calling g mk a) rfl rfl (h.2.1 q hq), va_AO.moved (u := U) (U := U.calling g mk a) (Vm.Alike.refl U.vm) h.2.2.1, va_AO.moved (u := U) (U := U.calling g mk a) (Vm.Alike.refl U.vm) h.2.2.2⟩
theorem va_RA_inj {U : State} {c1 c2 : ClassId} {ty : FieldType} (h1 : va_RA U c1 ty) (h2 : va_RA U c2 ty) : c1 = c2 := by
  cases ty with
  | object C =>
    obtain ⟨_, _, -, -, -, h3⟩ := h1
    obtain ⟨_, _, -, -, -, h4⟩ := h2
    exact Option.some.inj (h3.symm.trans h4)
  | _ => exact Option.some.inj (h1.symm.trans h2)
/-- what holds all through a constructor -/
def kCx (p : Program) (s : State) (m : MethodId) (args : Array Value) (meth : Method) (c : Code) (D : va_G) (A : Nat → Prop) (nL : Nat) (cc : ByteArray) (own : String) (ct : Nat → ClassId) (kw ss : Nat) : Prop :=
  p.tables.exec = Jvm.exec ∧ c.code = cc ∧ c.maxLocals = nL ∧ s.vm.findClass own = some m.cls ∧ (∀ w ∈ zTs, w.before args s = true) ∧ va_K D vwCl (ztys ct) s ∧ meth.name = "<init>" ∧ zSk kw ss A s ∧ (∀ q : Nat, s.heap.size ≤ q → A q)
variable {p : Program} {l : Launch} {e : Env} {R : Room} {s : State} {m : MethodId} {args : Array Value} {below : List Frame} {meth : Method} {c : Code} {Q : State → Prop} {D : va_G} {A : Nat → Prop} {nL : Nat} {cc : ByteArray} {own : String} {ct : Nat → ClassId} {kw ss : Nat}
variable {H : Heap} {locs : List Loc} {cells slots pc : Nat} {ls : Array Slot} {ws : va_W} {rest : List Value}
theorem kPut (C0 : kCx p s m args meth c D A nL cc own ct kw ss) (hP : va_P D vwCl ws H) (hD : va_D A ws) (hS : va_S A s.heap H locs) (q0 : Nat) {a ci k idx : Nat} {fs : List Value} {v : Value} {C : String} {T : u_T} {N : Nat} (ty0 : Nat → FieldType) (hz : ∀ w ∈ u_ws C T N, w ∈ zTs) (hty : ∀ k, k < N → parseFieldDescriptor (T k).2.2.1 = some (ty0 k)) (hnm : ∀ a, a < N → ∀ b, b < N → a ≠ b → (T a).2.1 ≠ (T b).2.1) (hc : vwCl[ci]? = some (C, T, N)) (he : ws[q0]? = some (a, .inr (ci, fs))) (hk : k < N) (hlink : Cond.fieldLink own idx (T k).1 (T k).2.1 (T k).2.2.1 ∈ zTs) (hfin : (T k).2.2.2 = true) (hdecl : (T k).1 = own) (hn : narrow (ty0 k) v = v) (hfit : fits (ty0 k) v = true) (hl : k < fs.length) (hdg : decode cc pc = .ok (.putfield idx, 3))
    (kk : ∀ (H1 : Heap) (locs1 : List Loc), va_P D vwCl (ws.set q0 (a, .inr (ci, fs.set k v))) H1 → va_D A (ws.set q0 (a, .inr (ci, fs.set k v))) → va_S A s.heap H1 locs1 → W p l e R s m args below meth c H1 locs1 cells slots Q (F0 m (pc + 3) ls rest)) : W p l e R s m args below meth c H locs cells slots Q (F0 m pc ls (v :: .ref a :: rest)) := by
  obtain ⟨hx, hb, hml, hown, hts, hK, hin, hSt, hA⟩ := C0
  exact va_putF hx hb hts hz ty0 hty hnm hown hK hP hD hS q0 he hc k hk (hts _ hlink) (fun _ h => h) hfin hin hdecl (hty k hk) hn hfit hl hdg kk
/-- a row of numbers is made and kept in a field of the new object -/
theorem kArr (C0 : kCx p s m args meth c D A nL cc own ct kw ss) {h0 ci k idx : Nat} {fs : List Value} (hP : va_P D vwCl ((h0, .inr (ci, fs)) :: ws) H) (hD : va_D A ((h0, .inr (ci, fs)) :: ws)) (hS : va_S A s.heap H locs) {atype : ArrayType} {ty : FieldType} (t : Nat) (hat : newarray.typeOf atype = ty) {w : Nat} (htt : (ztys ct)[w]? = some (ct t, ty)) (harr : Cond.arrayClass ty ∈ zTs) {n : Int32} {N' : Nat} {a0 : vp_A} (ha : ∀ cA : ClassId, vp_cell cA a0 = arrV cA N' (fun _ => defaultValue ty)) (hn0 : ¬ n < 0) (hN : n.toNatClampNeg = N') (hbytes : N' * componentBytes ty ≤ 536870912)
    {C : String} {T : u_T} {N : Nat} (ty0 : Nat → FieldType) (hz : ∀ w ∈ u_ws C T N, w ∈ zTs) (hty : ∀ k, k < N → parseFieldDescriptor (T k).2.2.1 = some (ty0 k)) (hnm : ∀ a, a < N → ∀ b, b < N → a ≠ b → (T a).2.1 ≠ (T b).2.1) (hc : vwCl[ci]? = some (C, T, N)) (hk : k < N) (hlink : Cond.fieldLink own idx (T k).1 (T k).2.1 (T k).2.2.1 ∈ zTs) (hfin : (T k).2.2.2 = true) (hdecl : (T k).1 = own) (hn : ∀ q : Nat, narrow (ty0 k) (.ref q) = .ref q) (hfit : ∀ q : Nat, fits (ty0 k) (.ref q) = true) (hl : k < fs.length) (hcells : cells + 1 ≤ R.cells) (hslots : slots + N' ≤ R.slots) (hd1 : decode cc pc = .ok (.newarray atype, 2)) (hd2 : decode cc (pc + 2) = .ok (.putfield idx, 3))
    (kk : ∀ (q : Nat) (H1 : Heap) (locs1 : List Loc), va_P D vwCl ((h0, .inr (ci, fs.set k (.ref q))) :: (ws ++ [(q, .inl (ct t, a0))])) H1 → va_D A ((h0, .inr (ci, fs.set k (.ref q))) :: (ws ++ [(q, .inl (ct t, a0))])) → va_S A s.heap H1 locs1 → W p l e R s m args below meth c H1 locs1 (cells + 1) (slots + N') Q (F0 m (pc + 5) ls rest)) : W p l e R s m args below meth c H locs cells slots Q (F0 m pc ls (.int n :: .ref h0 :: rest)) := by
  obtain ⟨hx, hb, hml, hown, hts, hK, hin, hSt, hA⟩ := id C0
  refine va_newa hx hb (hts _ (by rw [hat]; exact harr)) hat hK hP hD hS hA ha hn0 hN hbytes hcells hslots hd1 (fun q cA H1 hK1 hP1 hD1 hS1 => ?_)
  have e1 : cA = ct t := va_RA_inj (hK1.2 (ztys ct).length (cA, ty) (by simp)).2 (hK.2 w _ htt).2
  subst e1
  refine kPut C0 hP1 hD1 hS1 0 ty0 hz hty hnm hc rfl hk hlink hfin hdecl (hn q) (hfit q) hl hd2 (fun H2 locs2 hP2 hD2 hS2 => ?_)
  exact kk q H2 locs2 hP2 hD2 hS2
/-- the contract of a constructor: out of the bare object, the cells of a plan -/
def zCon (M : zMt) (ci k : Nat) (fs0 : List Value) (as : List Value) (σ : zH) (P : zP) (rm : Room) (mc ms : Nat) : Prop := ∀ (l : Launch) (D : va_G) (ct : Nat → ClassId) (kw ss h0 sz : Nat), Met l M.1 (zws M) rm (va_Pc (.ref h0 :: as) (fun U => U.heap.size = sz ∧ va_P D vwCl [(h0, .inr (ci, fs0))] U.heap ∧ va_K D vwCl (ztys ct) U ∧ zSk kw ss (va_A [(h0, .inr (ci, fs0))] sz) U)) (va_Qv (fun ad : Nat → Nat => ad k = h0) (fun ad t => va_P D vwCl (zw ad ct σ P) t.heap ∧ va_D (va_A [(h0, .inr (ci, fs0))] sz) (zw ad ct σ P)) (va_A [(h0, .inr (ci, fs0))] sz)) mc ms (va_A [(h0, .inr (ci, fs0))] sz)
theorem nd_range : ∀ n i : Nat, va_nd (List.range' i n) = true
  | 0, _ => rfl
  | n + 1, i => by
    rw [List.range'_succ, va_nd, nd_range n (i + 1)]
    simp
/-- 'new': the bare object, twice on the stack -/
theorem kNew (C0 : kCx p s m args meth c D A nL cc own ct kw ss) (hP : va_P D vwCl ws H) (hD : va_D A ws) (hS : va_S A s.heap H locs) {C : String} {T : u_T} {N ci idx : Nat} (ty : Nat → FieldType) (hz : ∀ w ∈ u_ws C T N, w ∈ zTs) (hty : ∀ k, k < N → parseFieldDescriptor (T k).2.2.1 = some (ty k)) (hcl : Cond.classLink own idx C ∈ zTs) (hinst : Cond.instantiable C N ∈ zTs) (hini : Cond.initialized C ∈ zTs) (hc : vwCl[ci]? = some (C, T, N)) {fs : List Value} (hfs : ∀ j, j < N → defaultValue (ty j) = vp_V fs j) (hcells : cells + 1 ≤ R.cells) (hslots : slots + N ≤ R.slots) (hd1 : decode cc pc = .ok (.new idx, 3)) (hd2 : decode cc (pc + 3) = .ok (.dup, 1))
    (kk : ∀ (q : Nat) (H1 : Heap), va_P D vwCl (ws ++ [(q, .inr (ci, fs))]) H1 → va_D A (ws ++ [(q, .inr (ci, fs))]) → va_S A s.heap H1 locs → W p l e R s m args below meth c H1 locs (cells + 1) (slots + N) Q (F0 m (pc + 4) ls (.ref q :: .ref q :: rest))) : W p l e R s m args below meth c H locs cells slots Q (F0 m pc ls rest) := by
  obtain ⟨hx, hb, hml, hown, hts, hK, hin, hSt, hA⟩ := id C0
  refine va_new hx hb hts hz ty hty hown (hts _ hcl) (hts _ hinst) (hts _ hini) hK hP hD hS hA hc hfs hcells hslots hd1 (fun q H1 hP1 hD1 hS1 => ?_)
  exact lv_dup hx hb hd2 rfl (kk q H1 hP1 hD1 hS1)
/-- the call of a constructor -/
theorem kCall (C0 : kCx p s m args meth c D A nL cc own ct kw ss) {ci k idx n q : Nat} {M : zMt} {fs0 as : List Value} {σ : zH} {P : zP} {rm : Room} {mc ms : Nat} (hM : zCon M ci k fs0 as σ P rm mc ms) (hP : va_P D vwCl (ws ++ [(q, .inr (ci, fs0))]) H) (hD : va_D A (ws ++ [(q, .inr (ci, fs0))])) (hS : va_S A s.heap H locs) (hok : zMok M) (h0 : M.2.2.2.1 = 0) (hrc : rm.cells = mc) (hrs : rm.slots = ms) (hnm : M.1.name = "<init>") (hlink : Cond.methodLink own idx M.1 ∈ zTs) (hin1 : Cond.instanceMethod M.1 ∈ zTs) (hnp : znp M.1 = some n) (hn : as.length = n) (hl : ls.size = nL) (hroom : rm.frames + 1 ≤ R.frames ∧ 8 + (M.2.2.1 + 11) + rm.locals ≤ R.locals) (hwd : (rest.map fun v => v.category).sum ≤ 8) (hf : cells + mc ≤ R.cells ∧ slots + ms ≤ R.slots) (hd1 : decode cc pc = .ok (.invokespecial idx, 3)) {st0 : List Value} (hst : st0 = as.reverse ++ .ref q :: rest)
    (kk : ∀ (ad : Nat → Nat) (H1 : Heap) (locs1 : List Loc), ad k = q → va_P D vwCl (ws ++ zw ad ct σ P) H1 → va_D A (ws ++ zw ad ct σ P) → va_S A s.heap H1 locs1 → W p l e R s m args below meth c H1 locs1 (cells + mc) (slots + ms) Q (F0 m (pc + 3) ls rest)) : W p l e R s m args below meth c H locs cells slots Q (F0 m pc ls st0) := by
  obtain ⟨hx, hb, hml, hown, hts, hK, hin, hSt, hA⟩ := id C0
  have hC : [ws.length].map (fun i => (ws ++ [(q, (.inr (ci, fs0) : va_E))])[i]?) = [(q, (.inr (ci, fs0) : va_E))].map some := by simp
  have hR : (List.range' 0 ws.length).map (fun i => (ws ++ [(q, (.inr (ci, fs0) : va_E))])[i]?) = ws.map some := by
    apply List.ext_getElem?
    intro j
    simp only [List.getElem?_map, List.getElem?_range', Nat.zero_add]
    by_cases hj : j < ws.length
    · simp [hj, List.getElem?_append_left hj]
    · simp [hj]
  have hPc : va_P D vwCl [(q, (.inr (ci, fs0) : va_E))] H := fun i x hx => by
    have hi : i < 1 := (List.getElem?_eq_some_iff.mp hx).1
    rw [show i = 0 by omega] at hx
    cases hx
    exact hP ws.length _ (by simp)
  have hFc := va_free (wc := [(q, (.inr (ci, fs0) : va_E))]) hD hS hA [ws.length] hC
  have hrm : va_Run p l e R s m args below meth c H locs cells slots mc ms (F0 m pc ls st0) rest _ _ := va_runI (As := as) (rest := rest) (bytes := M.2.1) (maxL := M.2.2.1) (n := n) (index := idx) ⟨hx, hb, hml, hown, hts⟩ (hM l D ct kw ss q H.size) ?_ ⟨fun a U g mk z => by obtain ⟨q0, q1, q2, q3, q4⟩ := z; exact ⟨q0, q1, q2, va_K.moved (u := U) (U := U.calling g mk a) (Vm.Alike.refl U.vm) q3, zSk_calling q4⟩, fun U hU hW => ⟨rfl, by rw [hU], by rw [hU]; exact hPc, hK.moved hW.alike, zSk_moved hSt hW hU hS hFc⟩⟩ rfl hn hl hst (lv_room hwd) hd1 hf
  · refine va_callv hrm hS (fun z _ h => hFc z h) hFc (fun ad t H1 locs1 ht hvm hw hB hz1 hk1 hS1 => ?_)
    obtain ⟨hP1, hD1⟩ := hB
    rw [ht] at hP1
    obtain ⟨hP2, hD2⟩ := va_join hP hD [ws.length] (List.range' 0 ws.length) hC hR (nd_range _ _) (fun i hi hj => by simp only [List.mem_range', List.mem_singleton] at hi hj; omega) hk1 hFc hP1 hD1
    exact kk ad H1 locs1 hw hP2 hD2 hS1
  · refine cwI n hts (fun w hw => ?_) (show zws M = .code M.1 M.2.1 M.2.2.1 none :: zTs by unfold zws; rw [h0]; rfl) hrc hrs ?_ (hts _ hlink) (hts _ hin1) ?_ ?_ hroom
    · exact zGood_ws hok w hw
    · exact hts _ hok.2.2.2.2.1
    · exact hnm
    · exact ⟨hok.2.1, hok.2.2.1, hnp⟩
/-- the call of a private constructor of a nest mate -/
theorem kCallN (C0 : kCx p s m args meth c D A nL cc own ct kw ss) {ci k idx n q : Nat} {M : zMt} {fs0 as : List Value} {σ : zH} {P : zP} {rm : Room} {mc ms : Nat} (hM : zCon M ci k fs0 as σ P rm mc ms) (hP : va_P D vwCl (ws ++ [(q, .inr (ci, fs0))]) H) (hD : va_D A (ws ++ [(q, .inr (ci, fs0))])) (hS : va_S A s.heap H locs) (hok : zMok M) (h0 : M.2.2.2.1 = 0) (hrc : rm.cells = mc) (hrs : rm.slots = ms) (hnm : M.1.name = "<init>") (hlink : (own, idx, M.1) ∈ kNl) (hin1 : Cond.instanceMethod M.1 ∈ zTs) (hnp : znp M.1 = some n) (hn : as.length = n) (hl : ls.size = nL) (hroom : rm.frames + 1 ≤ R.frames ∧ 8 + (M.2.2.1 + 11) + rm.locals ≤ R.locals) (hwd : (rest.map fun v => v.category).sum ≤ 8) (hf : cells + mc ≤ R.cells ∧ slots + ms ≤ R.slots) (hd1 : decode cc pc = .ok (.invokespecial idx, 3)) {st0 : List Value} (hst : st0 = as.reverse ++ .ref q :: rest)
    (kk : ∀ (ad : Nat → Nat) (H1 : Heap) (locs1 : List Loc), ad k = q → va_P D vwCl (ws ++ zw ad ct σ P) H1 → va_D A (ws ++ zw ad ct σ P) → va_S A s.heap H1 locs1 → W p l e R s m args below meth c H1 locs1 (cells + mc) (slots + ms) Q (F0 m (pc + 3) ls rest)) : W p l e R s m args below meth c H locs cells slots Q (F0 m pc ls st0) := by
  obtain ⟨hx, hb, hml, hown, hts, hK, hin, hSt, hA⟩ := id C0
  have hC : [ws.length].map (fun i => (ws ++ [(q, (.inr (ci, fs0) : va_E))])[i]?) = [(q, (.inr (ci, fs0) : va_E))].map some := by simp
  have hR : (List.range' 0 ws.length).map (fun i => (ws ++ [(q, (.inr (ci, fs0) : va_E))])[i]?) = ws.map some := by
    apply List.ext_getElem?
    intro j
    simp only [List.getElem?_map, List.getElem?_range', Nat.zero_add]
    by_cases hj : j < ws.length
    · simp [hj, List.getElem?_append_left hj]
    · simp [hj]
  have hPc : va_P D vwCl [(q, (.inr (ci, fs0) : va_E))] H := fun i x hx => by
    have hi : i < 1 := (List.getElem?_eq_some_iff.mp hx).1
    rw [show i = 0 by omega] at hx
    cases hx
    exact hP ws.length _ (by simp)
  have hFc := va_free (wc := [(q, (.inr (ci, fs0) : va_E))]) hD hS hA [ws.length] hC
  have hrm : va_Run p l e R s m args below meth c H locs cells slots mc ms (F0 m pc ls st0) rest _ _ := va_runIN (host := "RiverText") (As := as) (rest := rest) (bytes := M.2.1) (maxL := M.2.2.1) (n := n) (index := idx) ⟨hx, hb, hml, hown, hts⟩ (hM l D ct kw ss q H.size) ?_ ⟨fun a U g mk z => by obtain ⟨q0, q1, q2, q3, q4⟩ := z; exact ⟨q0, q1, q2, va_K.moved (u := U) (U := U.calling g mk a) (Vm.Alike.refl U.vm) q3, zSk_calling q4⟩, fun U hU hW => ⟨rfl, by rw [hU], by rw [hU]; exact hPc, hK.moved hW.alike, zSk_moved hSt hW hU hS hFc⟩⟩ rfl hn hl hst (lv_room hwd) hd1 hf
  · refine va_callv hrm hS (fun z _ h => hFc z h) hFc (fun ad t H1 locs1 ht hvm hw hB hz1 hk1 hS1 => ?_)
    obtain ⟨hP1, hD1⟩ := hB
    rw [ht] at hP1
    obtain ⟨hP2, hD2⟩ := va_join hP hD [ws.length] (List.range' 0 ws.length) hC hR (nd_range _ _) (fun i hi hj => by simp only [List.mem_range', List.mem_singleton] at hi hj; omega) hk1 hFc hP1 hD1
    exact kk ad H1 locs1 hw hP2 hD2 hS1
  · refine ⟨va_cnB n hts (fun w hw => ?_) (show zws M = .code M.1 M.2.1 M.2.2.1 none :: zTs by unfold zws; rw [h0]; rfl) hrc hrs (hSt.2.1 _ hlink) (hts _ hok.2.2.2.2.1) ?_ hroom, hnm, hts _ hin1⟩
    · exact zGood_ws hok w hw
    · exact ⟨hok.2.1, hok.2.2.1, hnp⟩
end ZB
