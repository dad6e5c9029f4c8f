/-! A STEP of the pure machine is a step of the machine -/
section ZT
theorem nbeq (a b : Nat) : (a == b) = Nat.beq a b := by
  cases h : Nat.beq a b with
  | true => simp [Nat.eq_of_beq_eq_true h]
  | false => simp [Nat.ne_of_beq_eq_false h]
variable {ad : Nat → Nat} {ct : Nat → ClassId} {kw ss : Nat}
theorem zst1_map (i : Nat) (v : zV) (L : zL) : ztL ad kw ss (zst1 i v L) = (i, ztr ad kw ss v) :: (ztL ad kw ss L).filter (fun q => !(q.1 == i) && !(q.1 + 1 == i && q.2.category == 2)) := by
  simp only [ztL, zst1, List.map_cons, List.filter_map, List.cons.injEq, true_and]
  congr 1
  apply List.filter_congr
  intro q _
  simp only [Function.comp, nbeq, zvc_cat]
theorem zst2_map (i : Nat) (v : zV) (L : zL) : ztL ad kw ss (zst2 i v L) = (i, ztr ad kw ss v) :: (ztL ad kw ss L).filter (fun q => !(q.1 == i) && (!(q.1 == i + 1) && !(q.1 + 1 == i && q.2.category == 2))) := by
  simp only [ztL, zst2, List.map_cons, List.filter_map, List.cons.injEq, true_and]
  congr 1
  apply List.filter_congr
  intro q _
  simp only [Function.comp, nbeq, zvc_cat]
theorem okL_st1 {P : zP} {i : Nat} {v : zV} {L : zL} (hv : okV P v) (hL : okL P L) : okL P (zst1 i v L) := by
  intro q hq
  rcases List.mem_cons.mp hq with rfl | hq
  · exact hv
  · exact hL q (List.mem_filter.mp hq).1
theorem okL_st2 {P : zP} {i : Nat} {v : zV} {L : zL} (hv : okV P v) (hL : okL P L) : okL P (zst2 i v L) := by
  intro q hq
  rcases List.mem_cons.mp hq with rfl | hq
  · exact hv
  · exact hL q (List.mem_filter.mp hq).1
theorem okS_cons {P : zP} {v : zV} {st : List zV} : okS P (v :: st) ↔ okV P v ∧ okS P st := List.forall_mem_cons
theorem zwd_cat : ∀ st : List zV, ((st.map (ztr ad kw ss)).map (fun v => v.category)).sum = zwd st
  | [] => rfl
  | v :: t => by simp only [List.map_cons, List.sum_cons, zwd, zvc_cat, zwd_cat t]
/-- a plan is closed -/
def zcl (P : zP) : Prop := (∀ e ∈ P, e.2.1 < 100 → e.2.2 = 0 ∧ ∀ slot a b, (zfi e.2.1 slot = (4, a, b) → (e.1 + a, b, 0) ∈ P) ∧ (zfi e.2.1 slot = (5, a, b) → (e.1 + (1 + slot), 100 + a, b) ∈ P) ∧ (zfi e.2.1 slot = (6, a, b) → (e.1 + (1 + slot), 100 + a, zhl e.1) ∈ P) ∧ (zfi e.2.1 slot = (3, a, b) → a < 200 ∧ ∀ x ∈ zids a, (x, a, 0) ∈ P)) ∧ (∀ e ∈ P, e.2.1 = 115 → ∀ x ∈ zids 5, (x, 5, 0) ∈ P) ∧ (∀ e ∈ P, e.2.1 = 118 → ∀ x ∈ zids 8, (x, 8, 0) ∈ P) ∧ ∀ e ∈ P, e.2.1 < 200 ∧ (e.2.1 < 100 ∨ e.2.1 = 100 ∨ e.2.1 = 101 ∨ e.2.1 = 102 ∨ e.2.1 = 103 ∨ e.2.1 = 115 ∨ e.2.1 = 118) ∧ e.2.2 < 10000
/-- the statics that the class reads -/
def zSt (kw ss : Nat) (A : Nat → Prop) (U : State) : Prop :=
  va_Z "RiverText" "KEYWORDS" "[J" (.ref kw) A U U.heap ∧ va_T .long kw 26 (fun i => .long (Int64.ofInt (zkw i))) A U U.heap ∧ va_Nw (.fieldLinkNest "RiverText$Tape" 62 "RiverText" "KEYWORDS" "[J" "RiverText") U ∧
  va_Z "RiverText" "SENSE_STEPS" "[I" (.ref ss) A U U.heap ∧ va_T .int ss 20 (fun i => .int (Int32.ofInt (zss i))) A U U.heap ∧ va_Nw (.fieldLinkNest "RiverText$Stream" 181 "RiverText" "SENSE_STEPS" "[I" "RiverText") U
theorem zmem_iff {x : Nat} : ∀ {l : List Nat}, zmem x l = true → x ∈ l
  | [], h => by cases h
  | y :: t, h => by
    simp only [zmem, Bool.or_eq_true] at h
    rcases h with h | h
    · rw [Nat.eq_of_beq_eq_true h]; exact List.mem_cons_self
    · exact List.mem_cons_of_mem _ (zmem_iff h)
theorem zio_mem {c : Nat} {x : Int} (h : zio c x = true) : x.toNat ∈ zids c := by
  cases x with
  | ofNat a => exact zmem_iff h
  | negSucc a => cases h
theorem len_of {len n : Nat} (h : Nat.beq len n = true) : len = n := Nat.eq_of_beq_eq_true h
section CX
variable (p : Program) (l : Launch) (e : Env) (R : Room) (s : State) (m : MethodId) (args : Array Value) (below : List Frame) (meth : Method) (c : Code) (Q : State → Prop) (D : va_G) (P : zP) (A : Nat → Prop) (nL : Nat)
variable (ad ct kw ss)
/-- the machine comes to Q from here, whatever the heap that holds the picture -/
def zWa (pc : Nat) (L : zL) (st : List zV) (σ : zH) : Prop := ∀ (H : Heap) (locs : List Loc) (ls : Array Slot), va_P D vwCl (zw ad ct σ P) H → va_S A s.heap H locs → lv_has ls nL (ztL ad kw ss L) → W p l e R s m args below meth c H locs 0 0 Q (F0 m pc ls (st.map (ztr ad kw ss)))
/-- what holds all through a method -/
def zCx (cc : ByteArray) (own : String) (Ts : List Cond) : Prop := p.tables.exec = Jvm.exec ∧ c.code = cc ∧ c.maxLocals = nL ∧ s.vm.findClass own = some m.cls ∧ (∀ w ∈ Ts, w.before args s = true) ∧ va_K D vwCl (ztys ct) s ∧ zapart P ∧ zinj ad P ∧ zcl P ∧ zSt kw ss A s ∧ A = zA ad P s.heap.size
/-- what a call is held by: the callee's contract -/
def zrv (mr : Nat) (x : Int) : Option Value := match mr with
  | 0 => none
  | 2 => some (.long (Int64.ofInt x))
  | _ => some (.int (Int32.ofInt x))
def rV (mr : Nat) (x : Int) : Prop := match mr with
  | 0 => True
  | 1 => r32 x
  | 2 => r64 x
  | _ => rbl x
def zPc (as : List zV) (σ : zH) (sz : Nat) : Array Value → State → Prop := va_Pc (as.map (ztr ad kw ss)) (fun U => U.heap.size = sz ∧ va_P D vwCl (zw ad ct σ P) U.heap ∧ va_K D vwCl (ztys ct) U ∧ zSt kw ss (zA ad P sz) U)
def zQc (mr : Nat) (σ : zH) (x : Int) (sz : Nat) : Array Value → State → Outcome → State → Prop := match mr with
  | 0 => va_Qv (fun _ : Unit => okH P σ) (fun _ t => va_P D vwCl (zw ad ct σ P) t.heap) (zA ad P sz)
  | 2 => va_Ql (fun (r : Int64) (_ : Unit) => r = Int64.ofInt x ∧ rV mr x ∧ okH P σ) (fun _ t => va_P D vwCl (zw ad ct σ P) t.heap) (zA ad P sz)
  | _ => va_Qi (fun (r : Int32) (_ : Unit) => r = Int32.ofInt x ∧ rV mr x ∧ okH P σ) (fun _ t => va_P D vwCl (zw ad ct σ P) t.heap) (zA ad P sz)
def zMet (cm cr : Nat) (as : List zV) (σ σ2 : zH) (x : Int) (sz : Nat) : Prop := Met l (zmt cm).1 (zws (zmt cm)) (zroom cr) (zPc ad ct kw ss D P as σ sz) (zQc ad ct D P (zmt cm).2.2.2.1 σ2 x sz) 0 0 (zA ad P sz)
def zswp (x : Int) (d : Prop) : List (Int × Prop) → Prop
  | [] => d
  | (k, r) :: t => (x = k → r) ∧ (¬ x = k → zswp x d t)
/-- a step: the next state is in range, and what it comes to, this one does; an end; a call; a branch; a switch -/
def zGd (mr rk pc : Nat) (L : zL) (st : List zV) (σ : zH) (o : Option (Bool × zO)) : Prop :=
  (∀ t L' st' σ', o = some (true, .inl (t, L', st', σ')) → (okL P L' ∧ okS P st' ∧ okH P σ') ∧ (zWa ad ct kw ss p l e R s m args below meth c Q D P A nL t L' st' σ' → zWa ad ct kw ss p l e R s m args below meth c Q D P A nL pc L st σ)) ∧
  (∀ x, o = some (true, .inr (.inl x)) → rV mr x ∧ okH P σ ∧ ((∀ (H : Heap) (locs : List Loc) (ls : Array Slot) (st1 : List Value), va_P D vwCl (zw ad ct σ P) H → va_S A s.heap H locs → ((mr = 0 ∧ st1 = [] ∧ decode c.code pc = .ok (.return_, 1)) ∨ (mr = 2 ∧ st1 = [.long (Int64.ofInt x)] ∧ decode c.code pc = .ok (.lreturn, 1)) ∨ ((mr = 1 ∨ mr = 3) ∧ st1 = [.int (Int32.ofInt x)] ∧ decode c.code pc = .ok (.ireturn, 1))) → W p l e R s m args below meth c H locs 0 0 Q (F0 m pc ls st1)) → zWa ad ct kw ss p l e R s m args below meth c Q D P A nL pc L st σ)) ∧
  (∀ cm cr ck as L' st' σ', o = some (true, .inr (.inr (.inl (cm, cr, ck, as, L', st', σ')))) → (okL P L' ∧ okS P st' ∧ okH P σ' ∧ okS P as ∧ zMok (zmt cm)) ∧ ∀ σ2 x, (∀ sz, zMet ad ct kw ss l D P cm cr (as.map zco) σ' σ2 x sz) → cr < rk → zwd st' ≤ 8 → ∀ st2, zpush ck x st' = some st2 → ((okH P σ2 → okS P st2 → zWa ad ct kw ss p l e R s m args below meth c Q D P A nL (pc + 3) L' st2 σ2) → zWa ad ct kw ss p l e R s m args below meth c Q D P A nL pc L st σ)) ∧
  (∀ (cd : zC) t L' st' σ', o = some (true, .inr (.inr (.inr (.inl (cd, t, L', st', σ'))))) → (okL P L' ∧ okS P st' ∧ okH P σ') ∧ ((cd.1 → zWa ad ct kw ss p l e R s m args below meth c Q D P A nL t L' st' σ') → (¬ cd.1 → zWa ad ct kw ss p l e R s m args below meth c Q D P A nL (pc + 3) L' st' σ') → zWa ad ct kw ss p l e R s m args below meth c Q D P A nL pc L st σ)) ∧
  (∀ x ps d L' st' σ', o = some (true, .inr (.inr (.inr (.inr (x, ps, d, L', st', σ'))))) → (okL P L' ∧ okS P st' ∧ okH P σ') ∧ (zswp x (zWa ad ct kw ss p l e R s m args below meth c Q D P A nL d L' st' σ') (ps.map (fun q => (q.1, zWa ad ct kw ss p l e R s m args below meth c Q D P A nL q.2 L' st' σ'))) → zWa ad ct kw ss p l e R s m args below meth c Q D P A nL pc L st σ))
end CX
section STEPS
variable {p : Program} {l : Launch} {e : Env} {R : Room} {s : State} {m : MethodId} {args : Array Value} {below : List Frame} {meth : Method} {c : Code} {Q : State → Prop} {D : va_G} {P : zP} {A : Nat → Prop} {nL : Nat} {cc : ByteArray} {own : String} {Ts : List Cond} {mr rk pc : Nat} {L : zL} {st : List zV} {σ : zH}
theorem zGd_none : zGd ad ct kw ss p l e R s m args below meth c Q D P A nL mr rk pc L st σ none := ⟨fun _ _ _ _ h => (by cases h), fun _ h => (by cases h), fun _ _ _ _ _ _ _ h => (by cases h), fun _ _ _ _ _ h => (by cases h), fun _ _ _ _ _ _ h => (by cases h)⟩
/-- the next state, given -/
theorem zGd_nx {t : Nat} {L' : zL} {st' : List zV} {σ' : zH} {g : Bool} (h1 : g = true → okL P L' ∧ okS P st' ∧ okH P σ') (h2 : g = true → zWa ad ct kw ss p l e R s m args below meth c Q D P A nL t L' st' σ' → zWa ad ct kw ss p l e R s m args below meth c Q D P A nL pc L st σ) : zGd ad ct kw ss p l e R s m args below meth c Q D P A nL mr rk pc L st σ (some (g, .inl (t, L', st', σ'))) := by
  refine ⟨fun t0 L0 st0 σ0 h => ?_, fun _ h => (by cases h), fun _ _ _ _ _ _ _ h => (by cases h), fun _ _ _ _ _ h => (by cases h), fun _ _ _ _ _ _ h => (by cases h)⟩
  cases h
  exact ⟨h1 rfl, h2 rfl⟩
theorem gd_push {t : Nat} {v : zV} (hL : okL P L) (hS : okS P st) (hH : okH P σ) (hv : okV P v)
    (row : ∀ (H : Heap) (locs : List Loc) (ls : Array Slot), va_P D vwCl (zw ad ct σ P) H → va_S A s.heap H locs → lv_has ls nL (ztL ad kw ss L) → W p l e R s m args below meth c H locs 0 0 Q (F0 m t ls (ztr ad kw ss v :: st.map (ztr ad kw ss))) → W p l e R s m args below meth c H locs 0 0 Q (F0 m pc ls (st.map (ztr ad kw ss)))) :
    zGd ad ct kw ss p l e R s m args below meth c Q D P A nL mr rk pc L st σ (some (true, .inl (t, L, v :: st, σ))) :=
  zGd_nx (fun _ => ⟨hL, okS_cons.mpr ⟨hv, hS⟩, hH⟩) (fun _ k H locs ls hP hs hl => row H locs ls hP hs hl (k H locs ls hP hs hl))
theorem gd_zb2 {f : Int → Int → Int} {g : Int32 → Int32 → Int32} {n : Nat} (hL : okL P L) (hS : okS P st) (hH : okH P σ) (hf : ∀ x y, r32 x → r32 y → r32 (f x y) ∧ Int32.ofInt (f x y) = g (Int32.ofInt x) (Int32.ofInt y))
    (row : ∀ (H : Heap) (locs : List Loc) (ls : Array Slot) (rest : List zV) (x y : Int32), ls.size = nL → ((∃ a b, st = b :: a :: rest)) → W p l e R s m args below meth c H locs 0 0 Q (F0 m n ls (.int (g x y) :: rest.map (ztr ad kw ss))) → W p l e R s m args below meth c H locs 0 0 Q (F0 m pc ls (.int y :: .int x :: rest.map (ztr ad kw ss)))) :
    zGd ad ct kw ss p l e R s m args below meth c Q D P A nL mr rk pc L st σ (zb2 f n L st σ) := by
  match st, hS with
  | [], _ => exact zGd_none
  | [_], _ => exact zGd_none
  | b :: a :: r, hS =>
    obtain ⟨hb, hS⟩ := okS_cons.mp hS
    obtain ⟨ha, hS⟩ := okS_cons.mp hS
    simp only [zb2]
    split
    · rename_i x y h1 h2
      obtain ⟨hx, ex⟩ := zgi_ok (ad := ad) (kw := kw) (ss := ss) h1 ha
      obtain ⟨hy, ey⟩ := zgi_ok (ad := ad) (kw := kw) (ss := ss) h2 hb
      obtain ⟨q1, q2⟩ := hf x y hx hy
      refine zGd_nx (fun _ => ⟨hL, okS_cons.mpr ⟨q1, hS⟩, hH⟩) (fun _ k H locs ls hP hs hl => ?_)
      simp only [List.map_cons, ex, ey]
      refine row H locs ls r _ _ hl.1 ⟨a, b, rfl⟩ ?_
      rw [← q2]
      exact k H locs ls hP hs hl
    · exact zGd_none
theorem gd_zl2 {f : Int → Int → Int} {g : Int64 → Int64 → Int64} {n : Nat} (hL : okL P L) (hS : okS P st) (hH : okH P σ) (hf : ∀ x y, r64 x → r64 y → r64 (f x y) ∧ Int64.ofInt (f x y) = g (Int64.ofInt x) (Int64.ofInt y))
    (row : ∀ (H : Heap) (locs : List Loc) (ls : Array Slot) (rest : List Value) (x y : Int64), W p l e R s m args below meth c H locs 0 0 Q (F0 m n ls (.long (g x y) :: rest)) → W p l e R s m args below meth c H locs 0 0 Q (F0 m pc ls (.long y :: .long x :: rest))) :
    zGd ad ct kw ss p l e R s m args below meth c Q D P A nL mr rk pc L st σ (zl2 f n L st σ) := by
  unfold zl2
  split
  · rename_i y x r
    obtain ⟨hb, hS⟩ := okS_cons.mp hS
    obtain ⟨ha, hS⟩ := okS_cons.mp hS
    obtain ⟨q1, q2⟩ := hf x y ha hb
    refine zGd_nx (fun _ => ⟨hL, okS_cons.mpr ⟨q1, hS⟩, hH⟩) (fun _ k H locs ls hP hs hl => ?_)
    refine row H locs ls _ _ _ ?_
    rw [← q2]
    exact k H locs ls hP hs hl
  · exact zGd_none
theorem gd_zldi {i n : Nat} (hL : okL P L) (hS : okS P st) (hH : okH P σ)
    (row : ∀ (H : Heap) (locs : List Loc) (ls : Array Slot) (rest : List Value) (x : Int32), ls[i]? = some (.val (.int x)) → W p l e R s m args below meth c H locs 0 0 Q (F0 m n ls (.int x :: rest)) → W p l e R s m args below meth c H locs 0 0 Q (F0 m pc ls rest)) :
    zGd ad ct kw ss p l e R s m args below meth c Q D P A nL mr rk pc L st σ (zldi i n L st σ) := by
  unfold zldi
  split
  · rename_i x h
    exact gd_push hL hS hH (hL _ (zlook_mem h)) (fun H locs ls hP hs hl k => row H locs ls _ _ (zlook_has hl h) k)
  · rename_i x h
    exact gd_push hL hS hH (hL _ (zlook_mem h)) (fun H locs ls hP hs hl k => row H locs ls _ _ (zlook_has hl h) k)
  · exact zGd_none
theorem gd_zldl {i n : Nat} (hL : okL P L) (hS : okS P st) (hH : okH P σ)
    (row : ∀ (H : Heap) (locs : List Loc) (ls : Array Slot) (rest : List Value) (x : Int64), ls[i]? = some (.val (.long x)) → W p l e R s m args below meth c H locs 0 0 Q (F0 m n ls (.long x :: rest)) → W p l e R s m args below meth c H locs 0 0 Q (F0 m pc ls rest)) :
    zGd ad ct kw ss p l e R s m args below meth c Q D P A nL mr rk pc L st σ (zldl i n L st σ) := by
  unfold zldl
  split
  · rename_i x h
    exact gd_push hL hS hH (hL _ (zlook_mem h)) (fun H locs ls hP hs hl k => row H locs ls _ _ (zlook_has hl h) k)
  · exact zGd_none
theorem ztr_ref {q : Nat × Nat × Nat} : ∃ a : Nat, ztr ad kw ss (.inr (.inr (.inr q))) = .ref a := by
  obtain ⟨ty, len, id⟩ := q
  simp only [ztr]
  cases Nat.ble 200 ty <;> exact ⟨_, rfl⟩
theorem gd_zlda {i n : Nat} (hL : okL P L) (hS : okS P st) (hH : okH P σ)
    (row : ∀ (H : Heap) (locs : List Loc) (ls : Array Slot) (rest : List Value) (x : Nat), ls[i]? = some (.val (.ref x)) → W p l e R s m args below meth c H locs 0 0 Q (F0 m n ls (.ref x :: rest)) → W p l e R s m args below meth c H locs 0 0 Q (F0 m pc ls rest)) :
    zGd ad ct kw ss p l e R s m args below meth c Q D P A nL mr rk pc L st σ (zlda i n L st σ) := by
  unfold zlda
  split
  · rename_i q h
    refine gd_push hL hS hH (hL _ (zlook_mem h)) (fun H locs ls hP hs hl k => ?_)
    have h9 := zlook_has hl h
    obtain ⟨a, ha⟩ := ztr_ref (ad := ad) (kw := kw) (ss := ss) (q := q)
    rw [ha] at h9 k
    exact row H locs ls _ _ h9 k
  · exact zGd_none
theorem gd_zsti {i n : Nat} (hL : okL P L) (hS : okS P st) (hH : okH P σ)
    (row : ∀ (H : Heap) (locs : List Loc) (ls : Array Slot) (rest : List Value) (x : Int32), lv_has ls nL (ztL ad kw ss L) → (∀ ls' : Array Slot, lv_has ls' nL ((i, .int x) :: (ztL ad kw ss L).filter (fun q => !(q.1 == i) && !(q.1 + 1 == i && q.2.category == 2))) → W p l e R s m args below meth c H locs 0 0 Q (F0 m n ls' rest)) → W p l e R s m args below meth c H locs 0 0 Q (F0 m pc ls (.int x :: rest))) :
    zGd ad ct kw ss p l e R s m args below meth c Q D P A nL mr rk pc L st σ (zsti i n L st σ) := by
  unfold zsti
  split
  · rename_i x r
    obtain ⟨hv, hS⟩ := okS_cons.mp hS
    refine zGd_nx (fun _ => ⟨okL_st1 hv hL, hS, hH⟩) (fun _ k H locs ls hP hs hl => row H locs ls _ _ hl (fun ls' h' => k H locs ls' hP hs ?_))
    rw [zst1_map]; exact h'
  · rename_i x r
    obtain ⟨hv, hS⟩ := okS_cons.mp hS
    refine zGd_nx (fun _ => ⟨okL_st1 hv hL, hS, hH⟩) (fun _ k H locs ls hP hs hl => row H locs ls _ _ hl (fun ls' h' => k H locs ls' hP hs ?_))
    rw [zst1_map]; exact h'
  · exact zGd_none
theorem gd_zstl {i n : Nat} (hL : okL P L) (hS : okS P st) (hH : okH P σ)
    (row : ∀ (H : Heap) (locs : List Loc) (ls : Array Slot) (rest : List Value) (x : Int64), lv_has ls nL (ztL ad kw ss L) → (∀ ls' : Array Slot, lv_has ls' nL ((i, .long x) :: (ztL ad kw ss L).filter (fun q => !(q.1 == i) && (!(q.1 == i + 1) && !(q.1 + 1 == i && q.2.category == 2)))) → W p l e R s m args below meth c H locs 0 0 Q (F0 m n ls' rest)) → W p l e R s m args below meth c H locs 0 0 Q (F0 m pc ls (.long x :: rest))) :
    zGd ad ct kw ss p l e R s m args below meth c Q D P A nL mr rk pc L st σ (zstl i n L st σ) := by
  unfold zstl
  split
  · rename_i x r
    obtain ⟨hv, hS⟩ := okS_cons.mp hS
    refine zGd_nx (fun _ => ⟨okL_st2 hv hL, hS, hH⟩) (fun _ k H locs ls hP hs hl => row H locs ls _ _ hl (fun ls' h' => k H locs ls' hP hs ?_))
    rw [zst2_map]; exact h'
  · exact zGd_none
theorem gd_zsta {i n : Nat} (hL : okL P L) (hS : okS P st) (hH : okH P σ)
    (row : ∀ (H : Heap) (locs : List Loc) (ls : Array Slot) (rest : List Value) (x : Nat), lv_has ls nL (ztL ad kw ss L) → (∀ ls' : Array Slot, lv_has ls' nL ((i, .ref x) :: (ztL ad kw ss L).filter (fun q => !(q.1 == i) && !(q.1 + 1 == i && q.2.category == 2))) → W p l e R s m args below meth c H locs 0 0 Q (F0 m n ls' rest)) → W p l e R s m args below meth c H locs 0 0 Q (F0 m pc ls (.ref x :: rest))) :
    zGd ad ct kw ss p l e R s m args below meth c Q D P A nL mr rk pc L st σ (zsta i n L st σ) := by
  unfold zsta
  split
  · rename_i q r
    obtain ⟨hv, hS⟩ := okS_cons.mp hS
    refine zGd_nx (fun _ => ⟨okL_st1 hv hL, hS, hH⟩) (fun _ k H locs ls hP hs hl => ?_)
    obtain ⟨a, ha⟩ := ztr_ref (ad := ad) (kw := kw) (ss := ss) (q := q)
    simp only [List.map_cons, ha]
    refine row H locs ls _ _ hl (fun ls' h' => k H locs ls' hP hs ?_)
    rw [zst1_map, ha]; exact h'
  · exact zGd_none
end STEPS
end ZT
