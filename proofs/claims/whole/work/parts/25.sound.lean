/-! SOUNDNESS: what a run of the pure machine comes to, the machine comes to -/
section ZF
def zsm (i : Instr) : Bool := match i with
  | .tableswitch _ _ _ _ => true
  | .lookupswitch _ _ => true
  | _ => false
theorem zlen1 {pc len : Nat} {i : Instr} (h : zchk pc len i = true) (hs : zsm i = false) : 1 ≤ len := by
  cases i
  case tableswitch => cases hs
  case lookupswitch => cases hs
  all_goals
    first
    | (have h1 := Nat.eq_of_beq_eq_true h; omega)
    | (simp only [zchk, Bool.and_eq_true] at h; have h1 := Nat.eq_of_beq_eq_true h.1; omega)
variable {lks : List (Nat × zK)} {mr rk pc len : Nat} {L : zL} {st : List zV} {σ : zH} {g : Bool} {o : zO}
theorem fm_zb2 {f : Int → Int → Int} {n : Nat} (h : zb2 f n L st σ = some (g, o)) : ∃ L' st' σ', o = .inl (n, L', st', σ') := by
  unfold zb2 at h
  (repeat' split at h) <;> first | (cases h; exact ⟨_, _, _, rfl⟩) | cases h
theorem fm_zl2 {f : Int → Int → Int} {n : Nat} (h : zl2 f n L st σ = some (g, o)) : ∃ L' st' σ', o = .inl (n, L', st', σ') := by
  unfold zl2 at h
  (repeat' split at h) <;> first | (cases h; exact ⟨_, _, _, rfl⟩) | cases h
theorem fm_zldi {i n : Nat} (h : zldi i n L st σ = some (g, o)) : ∃ L' st' σ', o = .inl (n, L', st', σ') := by
  unfold zldi at h
  (repeat' split at h) <;> first | (cases h; exact ⟨_, _, _, rfl⟩) | cases h
theorem fm_zldl {i n : Nat} (h : zldl i n L st σ = some (g, o)) : ∃ L' st' σ', o = .inl (n, L', st', σ') := by
  unfold zldl at h
  (repeat' split at h) <;> first | (cases h; exact ⟨_, _, _, rfl⟩) | cases h
theorem fm_zlda {i n : Nat} (h : zlda i n L st σ = some (g, o)) : ∃ L' st' σ', o = .inl (n, L', st', σ') := by
  unfold zlda at h
  (repeat' split at h) <;> first | (cases h; exact ⟨_, _, _, rfl⟩) | cases h
theorem fm_zsti {i n : Nat} (h : zsti i n L st σ = some (g, o)) : ∃ L' st' σ', o = .inl (n, L', st', σ') := by
  unfold zsti at h
  (repeat' split at h) <;> first | (cases h; exact ⟨_, _, _, rfl⟩) | cases h
theorem fm_zstl {i n : Nat} (h : zstl i n L st σ = some (g, o)) : ∃ L' st' σ', o = .inl (n, L', st', σ') := by
  unfold zstl at h
  (repeat' split at h) <;> first | (cases h; exact ⟨_, _, _, rfl⟩) | cases h
theorem fm_zsta {i n : Nat} (h : zsta i n L st σ = some (g, o)) : ∃ L' st' σ', o = .inl (n, L', st', σ') := by
  unfold zsta at h
  (repeat' split at h) <;> first | (cases h; exact ⟨_, _, _, rfl⟩) | cases h
theorem fm_zget {zf : Nat → Nat → zF} {ci slot n : Nat} (h : zget zf ci slot n L st σ = some (g, o)) : ∃ L' st' σ', o = .inl (n, L', st', σ') := by
  unfold zget at h
  (repeat' split at h) <;> first | (cases h; exact ⟨_, _, _, rfl⟩) | cases h
theorem fm_zput {zf : Nat → Nat → zF} {ci slot n : Nat} (h : zput zf ci slot n L st σ = some (g, o)) : ∃ L' st' σ', o = .inl (n, L', st', σ') := by
  unfold zput at h
  (repeat' split at h) <;> first | (cases h; exact ⟨_, _, _, rfl⟩) | cases h
theorem fm_zald {n op : Nat} (h : zald n op L st σ = some (g, o)) : ∃ L' st' σ', o = .inl (n, L', st', σ') := by
  unfold zald at h
  (repeat' split at h) <;> first | (cases h; exact ⟨_, _, _, rfl⟩) | cases h
theorem fm_zast {n op : Nat} (h : zast n op L st σ = some (g, o)) : ∃ L' st' σ', o = .inl (n, L', st', σ') := by
  unfold zast at h
  (repeat' split at h) <;> first | (cases h; exact ⟨_, _, _, rfl⟩) | cases h
theorem fm_zinv {e : zK} {n : Nat} {virt : Bool} (h : zinv rk e n virt L st σ = some (g, o)) : (∃ L' st' σ', o = .inl (n, L', st', σ')) ∨ ∃ v, g = true ∧ o = .inr (.inr (.inl v)) := by
  unfold zinv at h
  (repeat' split at h) <;> first | (cases h; exact Or.inl ⟨_, _, _, rfl⟩) | (cases h; exact Or.inr ⟨_, rfl, rfl⟩) | cases h | exact Or.inl (fm_zb2 h)
/-- the forms of an outcome -/
def zfm (pc len : Nat) (i : Instr) (g : Bool) (o : zO) : Prop :=
  (zsm i = false ∧ ∃ L' st' σ', o = .inl (pc + len, L', st', σ')) ∨
  (∃ off, ztg pc i = some (ztgt pc off) ∧ zsm i = false ∧ ∃ L' st' σ', o = .inl (ztgt pc off, L', st', σ')) ∨
  (∃ off, ztg pc i = some (ztgt pc off) ∧ (∀ pc, zchk pc len i = true → len = 3) ∧ ∃ cd L' st' σ', o = .inr (.inr (.inr (.inl (cd, ztgt pc off, L', st', σ'))))) ∨
  (g = true ∧ (∀ pc, zchk pc len i = true → len = 3) ∧ ∃ v, o = .inr (.inr (.inl v))) ∨ (∃ x, o = .inr (.inl x)) ∨ (g = true ∧ ∃ v, o = .inr (.inr (.inr (.inr v))))
theorem fm_1 {pc len n : Nat} {i : Instr} {o : zO} (hs : zsm i = false) (hn : n = pc + len) (h : ∃ L' st' σ', o = .inl (n, L', st', σ')) : zfm pc len i g o := by
  subst hn; exact Or.inl ⟨hs, h⟩
theorem zst_form {i : Instr} (h : zst zfi lks mr rk pc len i L st σ = some (g, o)) : zfm pc len i g o := by
  cases i
  case goto off =>
    cases h
    exact Or.inr (Or.inl ⟨off, rfl, rfl, _, _, _, rfl⟩)
  case ifCond cd off =>
    simp only [zst] at h
    (repeat' split at h) <;> first | cases h | skip
    exact Or.inr (Or.inr (Or.inl ⟨off, rfl, fun pc hc => by simp only [zchk, Bool.and_eq_true] at hc; exact Nat.eq_of_beq_eq_true hc.1, _, _, _, _, rfl⟩))
  case if_icmp cd off =>
    simp only [zst] at h
    (repeat' split at h) <;> first | cases h | skip
    exact Or.inr (Or.inr (Or.inl ⟨off, rfl, fun pc hc => by simp only [zchk, Bool.and_eq_true] at hc; exact Nat.eq_of_beq_eq_true hc.1, _, _, _, _, rfl⟩))
  case tableswitch d lo hi offs =>
    simp only [zst] at h
    (repeat' split at h) <;> first | cases h | skip
    exact Or.inr (Or.inr (Or.inr (Or.inr (Or.inr ⟨rfl, _, rfl⟩))))
  case lookupswitch d ps =>
    simp only [zst] at h
    (repeat' split at h) <;> first | cases h | skip
    exact Or.inr (Or.inr (Or.inr (Or.inr (Or.inr ⟨rfl, _, rfl⟩))))
  case ireturn =>
    simp only [zst] at h
    (repeat' split at h) <;> first | (cases h; exact Or.inr (Or.inr (Or.inr (Or.inr (Or.inl ⟨_, rfl⟩))))) | cases h
  case lreturn =>
    simp only [zst] at h
    (repeat' split at h) <;> first | (cases h; exact Or.inr (Or.inr (Or.inr (Or.inr (Or.inl ⟨_, rfl⟩))))) | cases h
  case return_ =>
    simp only [zst] at h
    (repeat' split at h) <;> first | (cases h; exact Or.inr (Or.inr (Or.inr (Or.inr (Or.inl ⟨_, rfl⟩))))) | cases h
  case invokevirtual idx =>
    simp only [zst] at h
    split at h
    · rcases fm_zinv h with h | ⟨v, h1, h2⟩
      · exact Or.inl ⟨rfl, h⟩
      · exact Or.inr (Or.inr (Or.inr (Or.inl ⟨h1, fun pc hc => Nat.eq_of_beq_eq_true hc, v, h2⟩)))
    · cases h
  case invokestatic idx =>
    simp only [zst] at h
    split at h
    · rcases fm_zinv h with h | ⟨v, h1, h2⟩
      · exact Or.inl ⟨rfl, h⟩
      · exact Or.inr (Or.inr (Or.inr (Or.inl ⟨h1, fun pc hc => Nat.eq_of_beq_eq_true hc, v, h2⟩)))
    · cases h
  all_goals
    first
    | exact Option.noConfusion (show (none : Option (Bool × zO)) = some (g, o) from h)
    | exact fm_1 rfl rfl (fm_zb2 h)
    | exact fm_1 rfl rfl (fm_zl2 h)
    | exact fm_1 rfl rfl (fm_zldi h)
    | exact fm_1 rfl rfl (fm_zldl h)
    | exact fm_1 rfl rfl (fm_zlda h)
    | exact fm_1 rfl rfl (fm_zsti h)
    | exact fm_1 rfl rfl (fm_zstl h)
    | exact fm_1 rfl rfl (fm_zsta h)
    | exact fm_1 rfl rfl (fm_zald h)
    | exact fm_1 rfl rfl (fm_zast h)
    | (simp only [zst] at h; (repeat' split at h) <;> first | (cases h; exact fm_1 rfl rfl ⟨_, _, _, rfl⟩) | exact fm_1 rfl rfl (fm_zget h) | exact fm_1 rfl rfl (fm_zput h) | cases h)
end ZF
section ZV
variable {l : Launch} {D : va_G} {P : zP} {ad : Nat → Nat} {ct : Nat → ClassId} {kw ss : Nat}
theorem zpick_has {nL : Nat} {ls : Array Slot} {L : zL} (hl : lv_has ls nL (ztL ad kw ss L)) : ∀ (lv : List Nat) (vs : List zV), zpick L lv = some vs → lv_has ls nL (ztL ad kw ss (lv.zip vs))
  | [], vs, h => ⟨hl.1, hl.2.1, fun q hq => by
      rw [List.zip_nil_left] at hq
      cases hq⟩
  | i :: t, vs, h => by
    simp only [zpick] at h
    split at h
    · cases h
    · rename_i v hv
      split at h
      · cases h
      · rename_i vs1 hvs
        cases h
        obtain ⟨h1, h2, h3⟩ := zpick_has hl t vs1 hvs
        refine ⟨h1, h2, fun q hq => ?_⟩
        rw [List.zip_cons_cons] at hq
        rcases List.mem_cons.mp hq with rfl | hq
        · show ls[i]? = some (.val (ztr ad kw ss (zco v)))
          rw [ztr_co]
          exact zlook_has hl hv
        · exact h3 q hq
theorem zpick_ok {L : zL} (hL : okL P L) : ∀ (lv : List Nat) (vs : List zV), zpick L lv = some vs → okS P vs
  | [], vs, h => by cases h; exact fun _ h => by cases h
  | i :: t, vs, h => by
    simp only [zpick] at h
    split at h
    · cases h
    · rename_i v hv
      split at h
      · cases h
      · rename_i vs1 hvs
        cases h
        exact okS_cons.mpr ⟨okV_co (hL _ (zlook_mem hv)), zpick_ok hL t vs1 hvs⟩
theorem zpick_len {L : zL} : ∀ (lv : List Nat) (vs : List zV), zpick L lv = some vs → vs.length = lv.length
  | [], vs, h => by cases h; rfl
  | i :: t, vs, h => by
    simp only [zpick] at h
    split at h
    · cases h
    · split at h
      · cases h
      · rename_i vs1 hvs
        cases h
        rw [List.length_cons, List.length_cons, zpick_len t vs1 hvs]
theorem zvc_12 (v : zV) : zvc v = 1 ∨ zvc v = 2 := by
  match v with
  | .inl _ => exact Or.inl rfl
  | .inr (.inl _) => exact Or.inr rfl
  | .inr (.inr (.inl _)) => exact Or.inl rfl
  | .inr (.inr (.inr _)) => exact Or.inl rfl
/-- the locals at a cut, out of those ahead of it -/
theorem zent_has {nL t : Nat} {ls : Array Slot} {L : zL} {idxs bl : List Nat} {vs : List zV} (hl : lv_has ls nL (ztL ad kw ss L)) (hp : zpick L bl = some vs) (hc : (idxs = bl ∧ 0 < t) ∨ (t = 0 ∧ (bl = [0] ∨ bl = [0, 1]))) : lv_has ls nL (ztL ad kw ss (zent t idxs vs)) := by
  have h1 := zpick_has hl bl vs hp
  rcases hc with ⟨rfl, ht⟩ | ⟨rfl, rfl | rfl⟩
  · match t, ht with
    | t + 1, _ => exact h1
  · match vs, zpick_len _ _ hp with
    | [v], _ => exact h1
  · match vs, zpick_len _ _ hp with
    | [v, u], _ =>
      rcases zvc_12 v with h2 | h2
      · have e : zent 0 idxs [v, u] = ([0, 1] : List Nat).zip [v, u] := by
          simp only [zent, zarg, h2]
          rfl
        rw [e]
        exact h1
      · exfalso
        have h3 : ls[0]? = some (.val (ztr ad kw ss v)) := h1.2.2 (0, ztr ad kw ss v) (by simp [ztL])
        have h4 : ls[0 + 1]? = some (.val (ztr ad kw ss u)) := h1.2.2 (1, ztr ad kw ss u) (by simp [ztL])
        have h5 := h1.2.1.1 0 _ h3 (by rw [zvc_cat]; exact h2)
        rw [h4] at h5
        cases h5
theorem zWa_pick {p : Program} {e : Env} {R : Room} {s : State} {m : MethodId} {args : Array Value} {below : List Frame} {meth : Method} {c : Code} {Q : State → Prop} {A : Nat → Prop} {nL pc : Nat} {L L2 : zL} {st : List zV} {σ : zH} (h : ∀ ls : Array Slot, lv_has ls nL (ztL ad kw ss L) → lv_has ls nL (ztL ad kw ss L2))
    (k : zWa ad ct kw ss p l e R s m args below meth c Q D P A nL pc L2 (st.map zco) σ) : zWa ad ct kw ss p l e R s m args below meth c Q D P A nL pc L st σ := by
  intro H locs ls hP hs hl
  have := k H locs ls hP hs (h ls hl)
  rw [map_co] at this
  exact this
theorem zev_code {n mid pc rk : Nat} {vs st : List zV} {σ : zH} {r : zH × Int} (h : zev n mid pc rk vs st σ = some r) : ∃ q, zcode mid pc = some q := by
  cases n with
  | zero => cases h
  | succ n =>
    change zgo (zev n) mid pc rk vs st σ = some r at h
    unfold zgo at h
    cases hc : zcode mid pc with
    | none => rw [hc] at h; cases h
    | some q => exact ⟨q, rfl⟩
theorem zret_ok {p : Program} {e : Env} {R : Room} {s : State} {m : MethodId} {args : Array Value} {below : List Frame} {meth : Method} {c : Code} {A : Nat → Prop} {nL mr pc : Nat} {cc : ByteArray} {own : String} {σ : zH} {x : Int} (C : zCx ad ct kw ss p s m args c D P A nL cc own zTs) (hret : meth.sig.returnType = zrt mr) (hlocks : meth.locks = false) (hv : rV mr x) (hH : okH P σ)
    (H : Heap) (locs : List Loc) (ls : Array Slot) (st1 : List Value) (hP : va_P D vwCl (zw ad ct σ P) H) (hS : va_S A s.heap H locs) (h : (mr = 0 ∧ st1 = [] ∧ decode c.code pc = .ok (.return_, 1)) ∨ (mr = 2 ∧ st1 = [.long (Int64.ofInt x)] ∧ decode c.code pc = .ok (.lreturn, 1)) ∨ ((mr = 1 ∨ mr = 3) ∧ st1 = [.int (Int32.ofInt x)] ∧ decode c.code pc = .ok (.ireturn, 1))) :
    W p l e R s m args below meth c H locs 0 0 (MQ below (zQc ad ct D P mr σ x s.heap.size) args s 0 0 A) (F0 m pc ls st1) := by
  obtain ⟨hx, hb, hml, hown, hts, hK, hap, hinj, hcl, hSt, hA⟩ := C
  rcases h with ⟨rfl, rfl, hdg⟩ | ⟨rfl, rfl, hdg⟩ | ⟨rfl | rfl, rfl, hdg⟩
  · exact W.vret hx rfl hret (fun t ht hW => ⟨⟨(), rfl, hH, by show va_P D vwCl (zw ad ct σ P) t.heap; rw [ht]; exact hP⟩, by rw [← hA]; exact hS.F ht⟩) hS.2.2 hdg hlocks
  · exact W.lret hx rfl hret (fun t ht hW => ⟨⟨_, (), rfl, ⟨rfl, hv, hH⟩, by show va_P D vwCl (zw ad ct σ P) t.heap; rw [ht]; exact hP⟩, by rw [← hA]; exact hS.F ht⟩) hS.2.2 hdg hlocks
  · exact W.iret hx rfl hret (fun t ht hW => ⟨⟨_, (), rfl, ⟨rfl, hv, hH⟩, by show va_P D vwCl (zw ad ct σ P) t.heap; rw [ht]; exact hP⟩, by rw [← hA]; exact hS.F ht⟩) hS.2.2 hdg hlocks
  · exact W.zret hx rfl hret (nar_z hv) (fun t ht hW => ⟨⟨_, (), rfl, ⟨rfl, hv, hH⟩, by show va_P D vwCl (zw ad ct σ P) t.heap; rw [ht]; exact hP⟩, by rw [← hA]; exact hS.F ht⟩) hS.2.2 hdg hlocks
theorem zl_1 {back : zB} {K : Nat → zL → List zV → zH → zR} {mid rk pc nx : Nat} {bl : List Nat} {σ : zH} {g : Bool} {v : Nat × zS} : zlast back K mid rk pc nx bl σ (some (g, .inl v)) = zact back K mid rk pc nx bl (some (g, .inl v)) := rfl
theorem zl_3 {back : zB} {K : Nat → zL → List zV → zH → zR} {mid rk pc nx : Nat} {bl : List Nat} {σ : zH} {g : Bool} {v : Nat × Nat × Nat × List zV × zS} : zlast back K mid rk pc nx bl σ (some (g, .inr (.inr (.inl v)))) = zact back K mid rk pc nx bl (some (g, .inr (.inr (.inl v)))) := rfl
theorem zl_4 {back : zB} {K : Nat → zL → List zV → zH → zR} {mid rk pc nx : Nat} {bl : List Nat} {σ : zH} {g : Bool} {v : zC × Nat × zS} : zlast back K mid rk pc nx bl σ (some (g, .inr (.inr (.inr (.inl v))))) = zact back K mid rk pc nx bl (some (g, .inr (.inr (.inr (.inl v))))) := rfl
theorem zl_5 {back : zB} {K : Nat → zL → List zV → zH → zR} {mid rk pc nx : Nat} {bl : List Nat} {σ : zH} {g : Bool} {v : Int × List (Int × Nat) × Nat × zS} : zlast back K mid rk pc nx bl σ (some (g, .inr (.inr (.inr (.inr v))))) = zact back K mid rk pc nx bl (some (g, .inr (.inr (.inr (.inr v))))) := rfl
/-- what is known of the runs of n rounds -/
def zSnds (l : Launch) (D : va_G) (P : zP) (ad : Nat → Nat) (ct : Nat → ClassId) (kw ss : Nat) (n : Nat) : Prop := ∀ (mid pc rk : Nat) (vs st : List zV) (σ σ' : zH) (x : Int) (own mr : Nat) (idxs : List Nat) (code : List zI), zev n mid pc rk vs st σ = some (σ', x) → zcode mid pc = some (own, mr, idxs, code) → okS P vs → okS P st → okH P σ →
  ∀ (p : Program) (e : Env) (s : State) (m : MethodId) (args : Array Value) (below : List Frame) (meth : Method) (c : Code) (A : Nat → Prop), zCx ad ct kw ss p s m args c D P A (zmt mid).2.2.1 (zmt mid).2.1 (zmt mid).2.2.2.2 zTs → meth.sig.returnType = zrt (zmt mid).2.2.2.1 → meth.locks = false →
    zWa ad ct kw ss p l e (zroom rk) s m args below meth c (MQ below (zQc ad ct D P (zmt mid).2.2.2.1 σ' x s.heap.size) args s 0 0 A) D P A (zmt mid).2.2.1 pc (zent pc idxs vs) st σ
theorem lg_len : ∀ as : List zV, (lg_sl (as.map (ztr ad kw ss))).length = zwd as
  | [] => rfl
  | v :: t => by
    have ih := lg_len t
    unfold lg_sl at ih ⊢
    rw [List.map_cons, List.flatMap_cons, List.length_append, ih, zvc_cat]
    rcases zvc_12 v with h | h
    · simp [zwd, h]
    · simp [zwd, h]
theorem lv_args_eq : ∀ (as : List zV) (i : Nat), lv_args i (as.map (ztr ad kw ss)) = ztL ad kw ss (zarg i as)
  | [], _ => rfl
  | v :: t, i => by
    have ih := lv_args_eq t (i + zvc v)
    simp only [List.map_cons, lv_args, zarg, ztL, zvc_cat]
    simp only [ztL] at ih
    rw [← ih]
    rcases zvc_12 v with h | h
    · rw [h]; rfl
    · rw [h]; rfl
theorem zMet_of {n cm cr : Nat} {as : List zV} {σ σ2 : zH} {x : Int} (hap : zapart P) (hinj : zinj ad P) (hcl : zcl P) (h : zSnds l D P ad ct kw ss n) (hev : zev n cm 0 cr as [] σ = some (σ2, x)) (hok : zMok (zmt cm)) (hS : okS P as) (hH : okH P σ) (sz : Nat) : zMet ad ct kw ss l D P cm cr as σ σ2 x sz := by
  obtain ⟨⟨own, mr, idxs, code⟩, hcode⟩ := zev_code hev
  have hwd : zwd as ≤ (zmt cm).2.2.1 := by
    have hf := (zfacts_all _ _ _ hcode).2.2.2.2 rfl
    cases n with
    | zero => cases hev
    | succ n =>
      change zgo (zev n) cm 0 cr as [] σ = some (σ2, x) at hev
      unfold zgo at hev
      rw [hcode] at hev
      simp only at hev hf
      cases hk : zok 0 idxs as with
      | false => rw [hk] at hev; cases hev
      | true =>
        rw [hf] at hk
        exact Nat.le_of_ble_eq_true hk
  refine Met.ofW (cc := (zmt cm).2.1) (maxL := (zmt cm).2.2.1) (ret := zrt (zmt cm).2.2.2.1) hok.1 rfl ?_
  intro p e s m args below meth c s₁ B hml hv
  obtain ⟨hargs, hsz, hP, hK, hSt⟩ := hv
  subst hsz
  have hts : ∀ w ∈ zTs, w.before args s = true := fun w hw => atoms_spec (ws := zws (zmt cm)) B.pre w (List.mem_cons_of_mem _ hw)
  have hown := findClass_of_methodNamed B.named
  rw [hok.2.2.2.2.2.2] at hown
  have C : zCx ad ct kw ss p s m args c D P (zA ad P s.heap.size) (zmt cm).2.2.1 (zmt cm).2.1 (zmt cm).2.2.2.2 zTs := ⟨B.exec, B.bytes, hml, hown, hts, hK, hap, hinj, hcl, hSt, rfl⟩
  have hl := lv_entry (as.map (ztr ad kw ss)) (n := (zmt cm).2.2.1) (by rw [lg_len]; exact hwd)
  rw [lv_args_eq] at hl
  have hw := h cm 0 cr as [] σ σ2 x own mr idxs code hev hcode hS (fun _ h => by cases h) hH p e s m args below meth c _ C B.returns B.notSynchronized s.heap [] _ hP va_S.rf hl
  have hq : entryFrame m args (zmt cm).2.2.1 = F0 m 0 ((lg_sl (as.map (ztr ad kw ss)) ++ List.replicate ((zmt cm).2.2.1 - (lg_sl (as.map (ztr ad kw ss))).length) Slot.unset).toArray) [] := by
    rw [hargs, lg_entry_eq]
  rw [hq]
  exact hw
theorem zrun_ok {n : Nat} (hIH : zSnds l D P ad ct kw ss n) (hap : zapart P) (hinj : zinj ad P) (hcl : zcl P) {mid rk own mr : Nat} {σ' : zH} {x : Int} (hmr : mr = (zmt mid).2.2.2.1) (hlks : zLKs (zmt mid).2.2.2.2 (zlks own))
    {p : Program} {e : Env} {s : State} {m : MethodId} {args : Array Value} {below : List Frame} {meth : Method} {c : Code} {A : Nat → Prop} (C : zCx ad ct kw ss p s m args c D P A (zmt mid).2.2.1 (zmt mid).2.1 (zmt mid).2.2.2.2 zTs) (hret : meth.sig.returnType = zrt (zmt mid).2.2.2.1) (hlocks : meth.locks = false) :
    ∀ (code : List zI) (pc to : Nat) (first : Bool) (L : zL) (st : List zV) (σ : zH), zrowb (zmt mid).2.1 (zmt mid).2.2.1 pc code = true → zcutb mid pc code = true → zrun zfi (zev n) (zlks own) mid mr rk code pc to first L st σ = some (σ', x) → okL P L → okS P st → okH P σ →
      zWa ad ct kw ss p l e (zroom rk) s m args below meth c (MQ below (zQc ad ct D P (zmt mid).2.2.2.1 σ' x s.heap.size) args s 0 0 A) D P A (zmt mid).2.2.1 to L st σ := by
  intro code
  induction code with
  | nil => intro pc to first L st σ _ _ hr; cases hr
  | cons e1 tl ih =>
    obtain ⟨i, len, cut, bl⟩ := e1
    intro pc to first L st σ hrow hcut hr hL hS hH
    simp only [zrowb, Bool.and_eq_true] at hrow
    obtain ⟨hdg, ⟨hchk, hn⟩, hrow⟩ := hrow
    have hdg := of_decide_eq_true hdg
    unfold zcutb at hcut
    rw [Bool.and_eq_true, Bool.and_eq_true] at hcut
    obtain ⟨hcut0, hbk, hcut⟩ := hcut
    unfold zrun at hr
    cases h1 : Nat.blt pc to with
    | true => rw [h1] at hr; exact ih _ _ _ _ _ _ hrow hcut hr hL hS hH
    | false =>
      rw [h1] at hr
      simp only at hr
      cases h2 : Nat.beq pc to with
      | false => rw [h2] at hr; cases hr
      | true =>
        rw [h2] at hr
        simp only at hr
        obtain rfl := Nat.eq_of_beq_eq_true h2
        -- back to a cut of this method
        have hback : ∀ (t : Nat) (lv : List Nat) (L1 : zL) (st1 : List zV) (σ1 : zH), okL P L1 → okS P st1 → okH P σ1 → ((zlv mid t = some lv ∧ 0 < t) ∨ (t = 0 ∧ (lv = [0] ∨ lv = [0, 1]))) → (match zpick L1 lv with
            | some vs => zev n mid t rk vs (st1.map zco) σ1
            | none => none) = some (σ', x) → zWa ad ct kw ss p l e (zroom rk) s m args below meth c (MQ below (zQc ad ct D P (zmt mid).2.2.2.1 σ' x s.heap.size) args s 0 0 A) D P A (zmt mid).2.2.1 t L1 st1 σ1 := by
          intro t lv L1 st1 σ1 hL1 hS1 hH1 hc hr1
          cases hp : zpick L1 lv with
          | none => rw [hp] at hr1; cases hr1
          | some vs =>
            rw [hp] at hr1
            simp only at hr1
            obtain ⟨⟨own1, mr1, idxs1, code1⟩, hcode1⟩ := zev_code hr1
            refine zWa_pick (L2 := zent t idxs1 vs) (fun ls hl => zent_has hl hp ?_) (hIH mid t rk vs (st1.map zco) σ1 σ' x own1 mr1 idxs1 code1 hr1 hcode1 (zpick_ok hL1 lv vs hp) (okS_co hS1) hH1 p e s m args below meth c A C hret hlocks)
            rcases hc with ⟨hc, ht⟩ | hc
            · refine Or.inl ⟨?_, ht⟩
              unfold zlv at hc
              rw [hcode1] at hc
              exact Option.some.inj hc
            · exact Or.inr hc
        have hbr : ∀ (t : Nat), ztg pc i = some t → Nat.ble t pc = true → (zlv mid t = some bl ∧ 0 < t) ∨ (t = 0 ∧ (bl = [0] ∨ bl = [0, 1])) := by
          intro t ht hle
          rw [ht] at hbk
          simp only [hle, Bool.not_true, Bool.false_or, Bool.or_eq_true, Bool.and_eq_true, decide_eq_true_eq] at hbk
          rcases hbk with ⟨h3, h4⟩ | ⟨h3, h4⟩
          · exact Or.inl ⟨h3, by rw [Nat.blt_eq] at h4; exact h4⟩
          · exact Or.inr ⟨Nat.eq_of_beq_eq_true h3, h4⟩
        have hstep : (zlast (zev n) (fun t L st σ => zrun zfi (zev n) (zlks own) mid mr rk tl (pc + len) t false L st σ) mid rk pc (pc + len) bl σ (zst zfi (zlks own) mr rk pc len i L st σ)) = some (σ', x) → zWa ad ct kw ss p l e (zroom rk) s m args below meth c (MQ below (zQc ad ct D P (zmt mid).2.2.2.1 σ' x s.heap.size) args s 0 0 A) D P A (zmt mid).2.2.1 pc L st σ := by
          intro hr
          have hG := zst_ok (l := l) (e := e) (below := below) (meth := meth) (Q := MQ below (zQc ad ct D P (zmt mid).2.2.2.1 σ' x s.heap.size) args s 0 0 A) (mr := mr) (rk := rk) (L := L) (st := st) (σ := σ) C (rfl : zroom rk = zroom rk) hL hS hH hdg hchk hn hlks
          generalize ho : zst zfi (zlks own) mr rk pc len i L st σ = oo at hr hG
          cases oo with
          | none => cases hr
          | some go =>
            obtain ⟨g, o⟩ := go
            have hf := zst_form ho
            rcases hf with ⟨hs, L', st', σ1, rfl⟩ | ⟨off, htg, hs, L', st', σ1, rfl⟩ | ⟨off, htg, hl3, cd, L', st', σ1, rfl⟩ | ⟨rfl, hl3, v, rfl⟩ | ⟨x1, rfl⟩ | ⟨rfl, v, rfl⟩
            · rw [zl_1] at hr
              cases g with
              | false => simp [zact] at hr
              | true =>
                simp only [zact, if_true] at hr
                have hble : Nat.ble (pc + len) pc = false := by
                  cases hb : Nat.ble (pc + len) pc with
                  | false => rfl
                  | true =>
                    have h3 := Nat.le_of_ble_eq_true hb
                    have h4 := zlen1 hchk hs
                    omega
                rw [hble] at hr
                obtain ⟨⟨g1, g2, g3⟩, g4⟩ := hG.1 _ _ _ _ rfl
                exact g4 (ih _ _ _ _ _ _ hrow hcut hr g1 g2 g3)
            · rw [zl_1] at hr
              cases g with
              | false => simp [zact] at hr
              | true =>
                simp only [zact, if_true] at hr
                obtain ⟨⟨g1, g2, g3⟩, g4⟩ := hG.1 _ _ _ _ rfl
                cases hb : Nat.ble (ztgt pc off) pc with
                | true => rw [hb] at hr; exact g4 (hback _ _ _ _ _ g1 g2 g3 (hbr _ htg hb) hr)
                | false => rw [hb] at hr; exact g4 (ih _ _ _ _ _ _ hrow hcut hr g1 g2 g3)
            · rw [zl_4] at hr
              obtain rfl := hl3 _ hchk
              cases g with
              | false => simp [zact] at hr
              | true =>
                obtain ⟨cd, hcd⟩ := cd
                simp only [zact, if_true] at hr
                obtain ⟨⟨g1, g2, g3⟩, g4⟩ := hG.2.2.2.1 _ _ _ _ _ rfl
                refine g4 (fun hc => ?_) (fun hc => ?_)
                · rw [if_pos hc] at hr
                  cases hb : Nat.ble (ztgt pc off) pc with
                  | true => rw [hb] at hr; exact hback _ _ _ _ _ g1 g2 g3 (hbr _ htg hb) hr
                  | false => rw [hb] at hr; exact ih _ _ _ _ _ _ hrow hcut hr g1 g2 g3
                · rw [if_neg hc] at hr
                  exact ih _ _ _ _ _ _ hrow hcut hr g1 g2 g3
            · obtain ⟨cm, cr, ck, as, L', st', σ1⟩ := v
              rw [zl_3] at hr
              obtain rfl := hl3 _ hchk
              simp only [zact, if_true] at hr
              obtain ⟨⟨g1, g2, g3, g4, g5⟩, g6⟩ := hG.2.2.1 _ _ _ _ _ _ _ rfl
              cases hb : Nat.ble (zwd st') 8 with
              | false => rw [hb] at hr; cases hr
              | true =>
                rw [hb] at hr
                simp only at hr
                cases hc : Nat.blt cr rk with
                | false => rw [hc] at hr; cases hr
                | true =>
                  rw [hc] at hr
                  simp only [cond_true] at hr
                  cases hq : zev n cm 0 cr (as.map zco) [] σ1 with
                  | none => rw [hq] at hr; cases hr
                  | some q =>
                    obtain ⟨σ2, x2⟩ := q
                    rw [hq] at hr
                    simp only [Option.bind_some] at hr
                    cases hs : zpush ck x2 st' with
                    | none => rw [hs] at hr; cases hr
                    | some st2 =>
                      rw [hs] at hr
                      simp only at hr
                      refine g6 σ2 x2 (zMet_of hap hinj hcl hIH hq g5 (okS_co g4) g3) (by rw [Nat.blt_eq] at hc; exact hc) (Nat.le_of_ble_eq_true hb) st2 hs (fun h3 h4 => ?_)
                      exact ih _ _ _ _ _ _ hrow hcut hr g1 h4 h3
            · change (if g = true then some (σ, x1) else none) = _ at hr
              cases g with
              | false => simp at hr
              | true =>
                rw [if_pos rfl] at hr
                cases hr
                obtain ⟨g1, g2, g3⟩ := hG.2.1 _ rfl
                subst hmr
                exact g3 (fun H locs ls st1 hP hs h => zret_ok C hret hlocks g1 g2 H locs ls st1 hP hs h)
            · obtain ⟨x1, ps, d, L', st', σ1⟩ := v
              rw [zl_5] at hr
              simp only [zact, if_true] at hr
              obtain ⟨⟨g1, g2, g3⟩, g4⟩ := hG.2.2.2.2 _ _ _ _ _ _ rfl
              refine g4 ?_
              clear g4 ho hG
              induction ps with
              | nil => exact ih _ _ _ _ _ _ hrow hcut hr g1 g2 g3
              | cons q t iht =>
                simp only [List.map_cons, zsw] at hr
                simp only [List.map_cons, zswp]
                constructor
                · intro hx
                  rw [if_pos hx] at hr
                  exact ih _ _ _ _ _ _ hrow hcut hr g1 g2 g3
                · intro hx
                  rw [if_neg hx] at hr
                  exact iht hr
        match first, cut, hcut0, hr with
        | false, some lv, hcut0, hr =>
          simp only [Bool.and_eq_true, decide_eq_true_eq] at hcut0
          exact hback pc lv L st σ hL hS hH (Or.inl ⟨hcut0.1, by have := hcut0.2; rw [Nat.blt_eq] at this; exact this⟩) hr
        | false, none, _, hr => exact hstep hr
        | true, some lv, _, hr => exact hstep hr
        | true, none, _, hr => exact hstep hr
theorem zsound (hap : zapart P) (hinj : zinj ad P) (hcl : zcl P) : ∀ n, zSnds l D P ad ct kw ss n
  | 0 => fun _ _ _ _ _ _ _ _ _ _ _ _ h => by cases h
  | n + 1 => by
    intro mid pc rk vs st σ σ' x own mr idxs code hev hcode hvs hst hH p e s m args below meth c A C hret hlocks
    change zgo (zev n) mid pc rk vs st σ = some (σ', x) at hev
    unfold zgo at hev
    rw [hcode] at hev
    simp only at hev
    obtain ⟨f1, f2, f3, f4, f5⟩ := zfacts_all _ _ _ hcode
    cases hk : zok pc idxs vs with
    | false => rw [hk] at hev; cases hev
    | true =>
      rw [hk] at hev
      simp only [cond_true] at hev
      refine zrun_ok (zsound hap hinj hcl n) hap hinj hcl f1 f2 C hret hlocks code pc pc true (zent pc idxs vs) st σ f3 f4 hev ?_ hst hH
      intro q hq
      have hmem : ∀ (i : Nat) (vs : List zV), (∀ v ∈ vs, okV P v) → ∀ q ∈ zarg i vs, okV P q.2 := by
        intro i vs
        induction vs generalizing i with
        | nil => intro _ q h; cases h
        | cons v t ih =>
          intro h q hq
          rcases List.mem_cons.mp hq with rfl | hq
          · exact h v List.mem_cons_self
          · exact ih _ (fun u hu => h u (List.mem_cons_of_mem _ hu)) q hq
      cases pc with
      | zero => exact hmem 0 vs hvs q hq
      | succ pc => exact hvs _ (List.of_mem_zip hq).2
/-- a method's contract out of its function -/
theorem zmet {cm cr : Nat} {as : List zV} {σ σ2 : zH} {x : Int} (hap : zapart P) (hinj : zinj ad P) (hcl : zcl P) (hev : zsem cm 0 cr as [] σ = some (σ2, x)) (hok : zMok (zmt cm)) (hS : okS P as) (hH : okH P σ) (sz : Nat) : zMet ad ct kw ss l D P cm cr as σ σ2 x sz := by
  obtain ⟨n, hn⟩ := zsem_iff.mp hev
  exact zMet_of hap hinj hcl (zsound hap hinj hcl n) hn hok hS hH sz
end ZV
