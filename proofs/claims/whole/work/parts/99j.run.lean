/-! A METHOD of the pure machine called from a walked one -/
section ZQ
variable {p : Program} {l : Launch} {e : Env} {R : Room} {s : State} {m : MethodId} {args : Array Value} {below : List Frame} {meth : Method} {c : Code} {D : va_G} {A : Nat → Prop} {nL : Nat} {cc : ByteArray} {own : String} {ad : Nat → Nat} {ct : Nat → ClassId} {kw ss : Nat} {σ σ2 : zH} {P : zP}
variable {H : Heap} {locs : List Loc} {cells slots pc : Nat} {ls : Array Slot}
theorem zinj_of (hap : zapart P) (hD : va_D A (zw ad ct σ P)) : zinj ad P := by
  intro x hx y hy hxy
  obtain ⟨i, hi, hi2⟩ := zw_at (ad := ad) (ct := ct) (σ := σ) hx
  obtain ⟨j, hj, hj2⟩ := zw_at (ad := ad) (ct := ct) (σ := σ) hy
  have := hD.1 i j _ _ hi2 hj2 hxy
  subst this
  rw [hi] at hj
  cases hj
  rfl
theorem zA_of (hD : va_D A (zw ad ct σ P)) (hA : ∀ q : Nat, s.heap.size ≤ q → A q) (hS : va_S A s.heap H locs) : ∀ q, zA ad P H.size q → A q := by
  rintro q (⟨x, hx, rfl⟩ | hq)
  · obtain ⟨i, hi, hi2⟩ := zw_at (ad := ad) (ct := ct) (σ := σ) hx
    exact hD.2 i _ hi2
  · exact hA q (Nat.le_trans hS.1 hq)
theorem zwD_cong (hD : va_D A (zw ad ct σ P)) : va_D A (zw ad ct σ2 P) := by
  have h : ∀ (i : Nat) (x : Nat × va_E), (zw ad ct σ2 P)[i]? = some x → ∃ y : Nat × va_E, (zw ad ct σ P)[i]? = some y ∧ y.1 = x.1 := by
    intro i x hx
    simp only [zw, List.getElem?_map, Option.map_eq_some_iff] at hx ⊢
    obtain ⟨y, hy, rfl⟩ := hx
    exact ⟨_, ⟨y, hy, rfl⟩, rfl⟩
  constructor
  · intro i j x y hx hy hxy
    obtain ⟨x', hx', ex⟩ := h i x hx
    obtain ⟨y', hy', ey⟩ := h j y hy
    exact hD.1 i j x' y' hx' hy' (by rw [ex, ey, hxy])
  · intro i x hx
    obtain ⟨x', hx', ex⟩ := h i x hx
    rw [← ex]
    exact hD.2 i x' hx'
theorem zrg_zero (kind i : Nat) : zrg kind i 0 := by
  unfold zrg
  split
  · unfold zrf
    split <;> first | exact ⟨by decide, by decide⟩ | exact Or.inl rfl | trivial
  · unfold zra
    split <;> first | exact ⟨by decide, by decide⟩ | exact Or.inl rfl | trivial
/-- the call of an object's method of the pure machine -/
theorem zRunV {cm cr n idx c0 k0 : Nat} {t : List zV} {x : Int} {st0 rest : List Value} (hS0 : CallFix p m c cc nL s args zTs own) (hK : va_K D vwCl (ztys ct) s) (hSt : zSt kw ss A s) (hA : ∀ q : Nat, s.heap.size ≤ q → A q) (hP : va_P D vwCl (zw ad ct σ P) H) (hD : va_D A (zw ad ct σ P)) (hS : va_S A s.heap H locs) (hap : zapart P) (hcl : zcl P) (hH : okH P σ) (hobj : (k0, c0, 0) ∈ P) (hc0 : c0 < 100) (ht : okS P t) (hev : zsem cm 0 cr (.inr (.inr (.inr (c0, 0, k0))) :: t) [] σ = some (σ2, x)) (hok : zMok (zmt cm)) (hq1 : (vwCl[c0]?).map (fun q => q.1) = some (zmt cm).1.cls) (hlink : Cond.methodLink own idx (zmt cm).1 ∈ zTs) (hia : Cond.instanceMethod (zmt cm).1 ∈ zTs) (hse : Cond.selects (zmt cm).1.cls (zmt cm).1 (zmt cm).1 ∈ zTs) (hnp : znp (zmt cm).1 = some n) (hn : t.length = n) (hl : ls.size = nL) (hst : st0 = (t.map (ztr ad kw ss)).reverse ++ .ref (ad k0) :: rest) (hroom : (zroom cr).frames + 1 ≤ R.frames ∧ 8 + ((zmt cm).2.2.1 + 11) + (zroom cr).locals ≤ R.locals) (hwd : (rest.map fun v => v.category).sum ≤ 8) (hf : cells + 0 ≤ R.cells ∧ slots + 0 ≤ R.slots) (hdg : decode cc pc = .ok (.invokevirtual idx, 3)) :
    va_Run p l e R s m args below meth c H locs cells slots 0 0 (F0 m pc ls st0) rest (zQc ad ct D P (zmt cm).2.2.2.1 σ2 x H.size (Value.ref (ad k0) :: t.map (ztr ad kw ss)).toArray) (zA ad P H.size) := by
  have hinj := zinj_of hap hD
  have hsub := zA_of hD hA hS
  obtain ⟨q, hq, hq2⟩ := Option.map_eq_some_iff.mp hq1
  obtain ⟨i, hi, hzi⟩ := zw_at (ad := ad) (ct := ct) (σ := σ) hobj
  rw [zcell_obj hc0] at hzi
  have hrecv := va_recv hK hP hq hzi
  rw [hq2] at hrecv
  have hobjV : okV P (.inr (.inr (.inr (c0, 0, k0)))) := by
    show match Nat.ble 200 c0 with | true => _ | false => _
    rw [show Nat.ble 200 c0 = false by cases h : Nat.ble 200 c0 with | false => rfl | true => exact absurd (Nat.le_of_ble_eq_true h) (by omega)]
    exact hobj
  have hM := zmet (ad := ad) (ct := ct) (kw := kw) (ss := ss) (l := l) (D := D) hap hinj hcl hev hok (okS_cons.mpr ⟨hobjV, ht⟩) hH H.size
  have ere : ztr ad kw ss (.inr (.inr (.inr (c0, 0, k0)))) = .ref (ad k0) := by
    show (match Nat.ble 200 c0 with | true => _ | false => _) = _
    rw [show Nat.ble 200 c0 = false by cases h : Nat.ble 200 c0 with | false => rfl | true => exact absurd (Nat.le_of_ble_eq_true h) (by omega)]
  refine va_runV (bytes := (zmt cm).2.1) (maxL := (zmt cm).2.2.1) (ret := zrt (zmt cm).2.2.2.1) (As := t.map (ztr ad kw ss)) (rest := rest) (n := n) hS0 hM ?_ ⟨zPc_blind, hrecv, fun U hU hW => ?_⟩ rfl (by rw [List.length_map]; exact hn) hl hst (lv_room hwd) hdg hf
  · refine cwV (y := (zmt cm).1) (bytes := (zmt cm).2.1) (maxL := (zmt cm).2.2.1) (ret := zrt (zmt cm).2.2.2.1) (ws' := zTs) n hS0.2.2.2.2 ?_ rfl rfl rfl ⟨rfl, hok.2.1, hok.2.2.1, hnp⟩ hroom
    intro w hw
    unfold wsV at hw
    rcases List.mem_append.mp hw with hw | hw
    · simp only [List.mem_cons, List.not_mem_nil, or_false] at hw
      rcases hw with rfl | rfl | rfl | rfl
      · exact zgood_of hlink
      · exact zgood_of hia
      · exact zgood_of hse
      · exact zgood_of hok.2.2.2.2.1
    · exact zGood_ws hok w hw
  · refine ⟨by rw [List.map_cons, ere], by rw [hU], by rw [hU]; exact hP, hK.moved hW.alike, zSt_moved hSt hW hU hS hsub⟩
end ZQ
