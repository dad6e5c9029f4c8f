/-! THE LAW'S at and town by contract: 1 where the class throws (by program) -/
section ZLA
theorem vaP_tl {D : va_G} {cl : List vw_C} {x : Nat × va_E} {W : va_W} {H : Heap} (h : va_P D cl (x :: W) H) : va_P D cl W H := fun k q hq => h (k + 1) q hq
theorem vaP_hd {D : va_G} {cl : List vw_C} {x : Nat × va_E} {W : va_W} {H : Heap} (h : va_P D cl (x :: W) H) : va_at D cl x H := h 0 x rfl
theorem vaP_cons {D : va_G} {cl : List vw_C} {x : Nat × va_E} {W : va_W} {H : Heap} (h1 : va_at D cl x H) (h2 : va_P D cl W H) : va_P D cl (x :: W) H := fun k q hq => match k, hq with
  | 0, hq => by cases hq; exact h1
  | k + 1, hq => h2 k q hq
theorem vaD_cons {A : Nat → Prop} {x : Nat × va_E} {W : va_W} (hx : A x.1) (hW : va_D A W) (hn : ∀ y ∈ W, y.1 ≠ x.1) : va_D A (x :: W) := by
  constructor
  · intro i j a b ha hb hab
    match i, j, ha, hb with
    | 0, 0, _, _ => rfl
    | 0, j + 1, ha, hb =>
      cases ha
      exact absurd hab.symm (hn b (List.mem_of_getElem? hb))
    | i + 1, 0, ha, hb =>
      cases hb
      exact absurd hab (hn a (List.mem_of_getElem? ha))
    | i + 1, j + 1, ha, hb => rw [hW.1 i j a b ha hb hab]
  · intro k a ha
    match k, ha with
    | 0, ha => cases ha; exact hx
    | k + 1, ha => exact hW.2 k a ha
theorem vaD_weak {A A' : Nat → Prop} {W : va_W} (h : va_D A W) (hA : ∀ z, A z → A' z) : va_D A' W := ⟨h.1, fun k q hk => hA _ (h.2 k q hk)⟩
theorem zw_ad {ad : Nat → Nat} {ct : Nat → ClassId} {σ : zH} {P : zP} {y : Nat × va_E} (h : y ∈ zw ad ct σ P) : ∃ e ∈ P, y.1 = ad e.1 := by
  obtain ⟨e, he, rfl⟩ := List.mem_map.mp h
  exact ⟨e, he, rfl⟩
theorem zGoodV {own : String} {idx : Nat} {M : zMt} (hok : zMok M) (hlink : Cond.methodLink own idx M.1 ∈ zTs) (hia : Cond.instanceMethod M.1 ∈ zTs) (hse : Cond.selects M.1.cls M.1 M.1 ∈ zTs) : GoodIn zTs (wsV own idx M.1.cls M.1 (zws M)) := by
  intro w hw
  unfold wsV at hw
  rcases List.mem_append.mp hw with hw | hw
  · simp only [List.mem_cons, List.not_mem_nil, or_false] at hw
    rcases hw with rfl | rfl | rfl | rfl
    · exact zgood_of hlink
    · exact zgood_of hia
    · exact zgood_of hse
    · exact zgood_of hok.2.2.2.2.1
  · exact zGood_ws hok w hw
def rmL (x z : Nat) : Room := { frames := 8, cells := x, slots := z, locals := 300 }
def zAl (ad : Nat → Nat) (q sz : Nat) : Nat → Prop := fun z => zA ad zPR sz z ∨ z = q
/-- as the law's at and town begin -/
def zPl (D : va_G) (ad : Nat → Nat) (ct : Nat → ClassId) (kw ss : Nat) (σ : zH) (q : Nat) (F : Nat → Int64) (as : List Value) (sz : Nat) : Array Value → State → Prop := va_Pc as (fun U => U.heap.size = sz ∧ va_P D vwCl ((q, .inl (ct 101, 1, .inr (.inl F))) :: zw ad ct σ zPR) U.heap ∧ va_K D vwCl (ztys ct) U ∧ zSt kw ss (zAl ad q sz) U ∧ zTr (zAl ad q sz) U)
theorem zPl_blind {D : va_G} {ad : Nat → Nat} {ct : Nat → ClassId} {kw ss : Nat} {σ : zH} {q : Nat} {F : Nat → Int64} {as : List Value} {sz : Nat} : FrameBlind (zPl D ad ct kw ss σ q F as sz) := by
  intro a U g mk q
  obtain ⟨q0, q1, q2, q3, q4, q5⟩ := q
  exact ⟨q0, q1, q2, va_K.moved (u := U) (U := U.calling g mk a) (Vm.Alike.refl U.vm) q3, zSt_calling q4, zTr_calling q5⟩
theorem zw_0 {ad : Nat → Nat} {ct : Nat → ClassId} {σ : zH} : (zw ad ct σ zPR)[0]? = some (ad 0, .inr (10, (List.range (znf 10)).map (zfv ad σ 0 10))) := by
  rw [← zcell_obj (ad := ad) (ct := ct) (σ := σ) (id := 0) (kind := 10) (len := 0) (by decide)]
  rfl
variable {l : Launch} {D : va_G} {ad : Nat → Nat} {ct : Nat → ClassId} {kw ss : Nat} {σ : zH} {k q : Nat} {F : Nat → Int64}
theorem zkL13 : Cond.classLink RL 13 zNSE ∈ zTs := (tm5 184 rfl rfl)
def dLLat_l0 : List (Nat × Instr × Nat) := [(0, .aload_n 3, 1), (1, .iconst 0, 1), (2, .aload_n 0, 1), (3, .iload_n 1, 1), (4, .iload_n 2, 1), (5, .invokevirtual 7, 3), (8, .i2l, 1), (9, .lastore, 1), (10, .goto (7), 3), (13, .astore 4, 2), (15, .iconst 1, 1), (16, .ireturn, 1), (17, .iconst 0, 1), (18, .ireturn, 1)]
theorem dLLat_h0 : dall cL_at dLLat_l0 = true := by decide +kernel
theorem dLat_0 : decode cL_at 0 = .ok (.aload_n 3, 1) := dat dLLat_h0 0 rfl
theorem dLat_1 : decode cL_at 1 = .ok (.iconst 0, 1) := dat dLLat_h0 1 rfl
theorem dLat_2 : decode cL_at 2 = .ok (.aload_n 0, 1) := dat dLLat_h0 2 rfl
theorem dLat_3 : decode cL_at 3 = .ok (.iload_n 1, 1) := dat dLLat_h0 3 rfl
theorem dLat_4 : decode cL_at 4 = .ok (.iload_n 2, 1) := dat dLLat_h0 4 rfl
theorem dLat_5 : decode cL_at 5 = .ok (.invokevirtual 7, 3) := dat dLLat_h0 5 rfl
theorem dLat_8 : decode cL_at 8 = .ok (.i2l, 1) := dat dLLat_h0 6 rfl
theorem dLat_9 : decode cL_at 9 = .ok (.lastore, 1) := dat dLLat_h0 7 rfl
theorem dLat_10 : decode cL_at 10 = .ok (.goto (7), 3) := dat dLLat_h0 8 rfl
theorem dLat_13 : decode cL_at 13 = .ok (.astore 4, 2) := dat dLLat_h0 9 rfl
theorem dLat_15 : decode cL_at 15 = .ok (.iconst 1, 1) := dat dLLat_h0 10 rfl
theorem dLat_16 : decode cL_at 16 = .ok (.ireturn, 1) := dat dLLat_h0 11 rfl
theorem dLat_17 : decode cL_at 17 = .ok (.iconst 0, 1) := dat dLLat_h0 12 rfl
theorem dLat_18 : decode cL_at 18 = .ok (.ireturn, 1) := dat dLLat_h0 13 rfl
abbrev wsLat : List Cond := .codeWith yL_at cL_at 5 (some .int) [(0, 10, 13, 13)] :: zTs
set_option maxHeartbeats 4000000 in
theorem la_thr (hl9 : l.stackTraces = false) {r p0 : Int} (hk : isLand k) (h11 : σ 0 11 = (k : Int)) (hH : okH zPR σ) (hinj : zinj ad zPR) (hr : r32 r) (hp : r32 p0) (hev : f_Country_hasPlace σ k r p0 = some (σ, 0)) (hqn : ∀ x ∈ zPR, ad x.1 ≠ q) (sz : Nat) : vx_Met l yL_at wsLat (rmL 1 6) (zPl D ad ct kw ss σ q F [.ref (ad 0), .int (Int32.ofInt r), .int (Int32.ofInt p0), .ref q] sz) (va_Qi (fun (x : Int32) (_ : Unit) => x = Int32.ofInt 1) (fun _ t => va_P D vwCl ((q, .inl (ct 101, 1, .inr (.inl F))) :: zw ad ct σ zPR) t.heap) (zAl ad q sz)) (vx_X (fun _ : Unit => False) (fun _ _ _ => True) (zAl ad q sz)) 1 6 (zAl ad q sz) := by
  refine vx_ofWH (cc := cL_at) (maxL := 5) (ret := some .int) (hh := [(0, 10, 13, 13)]) (by decide +kernel) rfl ?_
  intro p e s m args below meth c s₁ B hml hv
  obtain ⟨hargs, hsz, hP, hK, hSt, hTr⟩ := hv
  subst hsz
  have hts : ∀ w ∈ zTs, w.before args s = true := fun w hw => atoms_spec (ws := wsLat) B.pre w (List.mem_cons_of_mem _ hw)
  have htb : c.exceptionTable.toList = tableOf [(0, 10, 13, 13)] := vx_table (x := yL_at) B (atoms_spec (ws := wsLat) B.pre _ List.mem_cons_self)
  have hown : s.vm.findClass RL = some m.cls := findClass_of_methodNamed B.named
  have hx := B.exec
  have hb := B.bytes
  have hr0 := B.returns
  have hlocks := B.notSynchronized
  have hqlt : q < s.heap.size := (vaP_hd hP).lt
  have hnq : ¬ zA ad zPR s.heap.size q := by
    rintro (⟨x, hx, h⟩ | h)
    · exact hqn x hx h.symm
    · exact absurd hqlt (Nat.not_lt.mpr h)
  have hsub : ∀ z, zA ad zPR s.heap.size z → zAl ad q s.heap.size z := fun z h => Or.inl h
  have hD : va_D (zAl ad q s.heap.size) (zw ad ct σ zPR) := vaD_weak (zw_D zapR hinj) hsub
  have hq : entryFrame m args 5 = F0 m 0 ((lg_sl [.ref (ad 0), .int (Int32.ofInt r), .int (Int32.ofInt p0), .ref q] ++ List.replicate (5 - (lg_sl [.ref (ad 0), .int (Int32.ofInt r), .int (Int32.ofInt p0), .ref q]).length) Slot.unset).toArray) [] := by rw [hargs, lg_entry_eq]
  rw [hq]
  have hl0 := lv_entry [.ref (ad 0), .int (Int32.ofInt r), .int (Int32.ofInt p0), .ref q] (n := 5) (Nat.le_of_ble_eq_true rfl)
  generalize (lg_sl [.ref (ad 0), .int (Int32.ofInt r), .int (Int32.ofInt p0), .ref q] ++ List.replicate (5 - (lg_sl [.ref (ad 0), .int (Int32.ofInt r), .int (Int32.ofInt p0), .ref q]).length) Slot.unset).toArray = ls at hl0 ⊢
  have hl : lv_has ls 5 [(0, .ref (ad 0)), (1, .int (Int32.ofInt r)), (2, .int (Int32.ofInt p0)), (3, .ref q)] := hl0
  have hS : va_S (zAl ad q s.heap.size) s.heap s.heap [] := va_S.rf
  have hC : CallFix p m c cL_at 5 s args zTs RL := ⟨hx, hb, hml, hown, hts⟩
  refine lv_aload_n hx hb dLat_0 rfl (lv_at hl 3 rfl) ?_
  refine lv_iconst (v := 0) hx hb dLat_1 (by decide) ?_
  refine lv_aload_n hx hb dLat_2 rfl (lv_at hl 0 rfl) ?_
  refine lv_iload_n hx hb dLat_3 rfl (lv_at hl 1 rfl) ?_
  refine lv_iload_n hx hb dLat_4 rfl (lv_at hl 2 rfl) ?_
  have hrun := vx_runV (l := l) (below := below) (e := e) (R := rmL 1 6) (meth := meth) (locs := []) (cells := 0) (slots := 0) (g := F0 m 5 ls [.int (Int32.ofInt p0), .int (Int32.ofInt r), .ref (ad 0), .int 0, .ref q]) (As := [.int (Int32.ofInt r), .int (Int32.ofInt p0)]) (rest := [.int 0, .ref q]) hC (at_thr (kw := kw) (ss := ss) (D := D) (ct := ct) hl9 hk h11 hH hinj hr hp hev s.heap.size) (cwV (y := yX10_at) (bytes := cX10_at) (maxL := 3) (ret := some .int) (ws' := zTs) 2 hts (zGoodV zmoKat (tm5 185 rfl rfl) (tm5 186 rfl rfl) (tm5 187 rfl rfl)) rfl rfl rfl ⟨rfl, zmoKat.2.1, zmoKat.2.2.1, (by decide +kernel)⟩ ⟨Nat.le_of_ble_eq_true rfl, Nat.le_of_ble_eq_true rfl⟩) ⟨zPt_blind, va_recv (ci := 10) (q := (RX10, TX10, 18)) hK (vaP_tl hP) rfl zw_0, fun U hU hW => ⟨rfl, by rw [hU], by rw [hU]; exact vaP_tl hP, hK.moved hW.alike, zSt_moved hSt hW hU hS hsub, zTr_moved hTr hW hU hS hsub⟩⟩ rfl rfl hl.1 rfl (lv_room (Nat.le_of_ble_eq_true rfl)) dLat_5 ⟨Nat.le_of_ble_eq_true rfl, Nat.le_of_ble_eq_true rfl⟩
  refine vx_calli hrun hS (fun z _ h => hsub z h) hsub (fun z _ h => hsub z h) (fun E ce q9 u t H1 locs1 ht hvm hu hB hz1 hk1 hS1 hcell hv hcl => ?_) (fun x u t H1 locs1 ht hvm hu hB hz1 hk1 hS1 => hu.elim)
  obtain ⟨rfl, hPt⟩ := hB
  rw [ht] at hPt
  have hq1 := (vaP_hd hP).kept (hk1 q hqlt hnq)
  refine vx_catch (own := RL) (name := zNSE) hown [] ⟨0, 10, 13, 13⟩ [] htb (fun z hz => nomatch hz) (by decide) (by decide) (hts _ zkL13) (va_Nw.use rfl hTr.1.2.2.2) hcell hv hcl ?_
  refine lv_astore (lv' := [(4, .ref q9), (0, .ref (ad 0)), (1, .int (Int32.ofInt r)), (2, .int (Int32.ofInt p0)), (3, .ref q)]) hx hb dLat_13 hl (by decide) rfl (fun ls hl => ?_)
  refine lv_iconst (v := 1) hx hb dLat_15 (by decide) ?_
  exact vx_ret (W.iret (v := 1) hx hb hr0 (fun t ht hW => ⟨⟨1, (), rfl, (by decide +kernel), by show va_P D vwCl _ t.heap; rw [ht]; exact vaP_cons hq1 hPt⟩, hS1.F ht⟩) hS1.2.2 dLat_16)
set_option maxHeartbeats 4000000 in
theorem la_tel {r p0 v : Int} (hk : isLand k) (h11 : σ 0 11 = (k : Int)) (hH : okH zPR σ) (hinj : zinj ad zPR) (hr : r32 r) (hp : r32 p0) (hev : f_Country_hasPlace σ k r p0 = some (σ, 1)) (hev2 : f_Stream_termAt σ 96 k r p0 = some (σ, v)) (hqn : ∀ x ∈ zPR, ad x.1 ≠ q) (sz : Nat) : vx_Met l yL_at wsLat (rmL 0 0) (zPl D ad ct kw ss σ q F [.ref (ad 0), .int (Int32.ofInt r), .int (Int32.ofInt p0), .ref q] sz) (va_Qi (fun (x : Int32) (_ : Unit) => x = Int32.ofInt 0) (fun _ t => va_P D vwCl ((q, .inl (ct 101, 1, .inr (.inl (vp_updL F (Int32.toNatClampNeg 0) (Int32.ofInt v).toInt64)))) :: zw ad ct σ zPR) t.heap) (zAl ad q sz)) (vx_X (fun _ : Unit => False) (fun _ _ _ => True) (zAl ad q sz)) 0 0 (zAl ad q sz) := by
  refine vx_ofWH (cc := cL_at) (maxL := 5) (ret := some .int) (hh := [(0, 10, 13, 13)]) (by decide +kernel) rfl ?_
  intro p e s m args below meth c s₁ B hml hv
  obtain ⟨hargs, hsz, hP, hK, hSt, hTr⟩ := hv
  subst hsz
  have hts : ∀ w ∈ zTs, w.before args s = true := fun w hw => atoms_spec (ws := wsLat) B.pre w (List.mem_cons_of_mem _ hw)
  have htb : c.exceptionTable.toList = tableOf [(0, 10, 13, 13)] := vx_table (x := yL_at) B (atoms_spec (ws := wsLat) B.pre _ List.mem_cons_self)
  have hown : s.vm.findClass RL = some m.cls := findClass_of_methodNamed B.named
  have hx := B.exec
  have hb := B.bytes
  have hr0 := B.returns
  have hlocks := B.notSynchronized
  have hqlt : q < s.heap.size := (vaP_hd hP).lt
  have hnq : ¬ zA ad zPR s.heap.size q := by
    rintro (⟨x, hx, h⟩ | h)
    · exact hqn x hx h.symm
    · exact absurd hqlt (Nat.not_lt.mpr h)
  have hsub : ∀ z, zA ad zPR s.heap.size z → zAl ad q s.heap.size z := fun z h => Or.inl h
  have hD : va_D (zAl ad q s.heap.size) (zw ad ct σ zPR) := vaD_weak (zw_D zapR hinj) hsub
  have hq : entryFrame m args 5 = F0 m 0 ((lg_sl [.ref (ad 0), .int (Int32.ofInt r), .int (Int32.ofInt p0), .ref q] ++ List.replicate (5 - (lg_sl [.ref (ad 0), .int (Int32.ofInt r), .int (Int32.ofInt p0), .ref q]).length) Slot.unset).toArray) [] := by rw [hargs, lg_entry_eq]
  rw [hq]
  have hl0 := lv_entry [.ref (ad 0), .int (Int32.ofInt r), .int (Int32.ofInt p0), .ref q] (n := 5) (Nat.le_of_ble_eq_true rfl)
  generalize (lg_sl [.ref (ad 0), .int (Int32.ofInt r), .int (Int32.ofInt p0), .ref q] ++ List.replicate (5 - (lg_sl [.ref (ad 0), .int (Int32.ofInt r), .int (Int32.ofInt p0), .ref q]).length) Slot.unset).toArray = ls at hl0 ⊢
  have hl : lv_has ls 5 [(0, .ref (ad 0)), (1, .int (Int32.ofInt r)), (2, .int (Int32.ofInt p0)), (3, .ref q)] := hl0
  have hS : va_S (zAl ad q s.heap.size) s.heap s.heap [] := va_S.rf
  have hC : CallFix p m c cL_at 5 s args zTs RL := ⟨hx, hb, hml, hown, hts⟩
  refine lv_aload_n hx hb dLat_0 rfl (lv_at hl 3 rfl) ?_
  refine lv_iconst (v := 0) hx hb dLat_1 (by decide) ?_
  refine lv_aload_n hx hb dLat_2 rfl (lv_at hl 0 rfl) ?_
  refine lv_iload_n hx hb dLat_3 rfl (lv_at hl 1 rfl) ?_
  refine lv_iload_n hx hb dLat_4 rfl (lv_at hl 2 rfl) ?_
  have hrun := va_runV (l := l) (below := below) (e := e) (R := rmL 0 0) (meth := meth) (locs := []) (cells := 0) (slots := 0) (g := F0 m 5 ls [.int (Int32.ofInt p0), .int (Int32.ofInt r), .ref (ad 0), .int 0, .ref q]) (As := [.int (Int32.ofInt r), .int (Int32.ofInt p0)]) (rest := [.int 0, .ref q]) hC (at_tel (l := l) (kw := kw) (ss := ss) (D := D) (ct := ct) hk h11 hH hinj hr hp hev hev2 s.heap.size) (cwV (y := yX10_at) (bytes := cX10_at) (maxL := 3) (ret := some .int) (ws' := zTs) 2 hts (zGoodV zmoKat (tm5 185 rfl rfl) (tm5 186 rfl rfl) (tm5 187 rfl rfl)) rfl rfl rfl ⟨rfl, zmoKat.2.1, zmoKat.2.2.1, (by decide +kernel)⟩ ⟨Nat.le_of_ble_eq_true rfl, Nat.le_of_ble_eq_true rfl⟩) ⟨zPt_blind, va_recv (ci := 10) (q := (RX10, TX10, 18)) hK (vaP_tl hP) rfl zw_0, fun U hU hW => ⟨rfl, by rw [hU], by rw [hU]; exact vaP_tl hP, hK.moved hW.alike, zSt_moved hSt hW hU hS hsub, zTr_moved hTr hW hU hS hsub⟩⟩ rfl rfl hl.1 rfl (lv_room (Nat.le_of_ble_eq_true rfl)) dLat_5 ⟨Nat.le_of_ble_eq_true rfl, Nat.le_of_ble_eq_true rfl⟩
  refine va_calli hrun hS (fun z _ h => hsub z h) hsub (fun x u t H1 locs1 ht hvm hx9 hB hz1 hk1 hS1 => ?_)
  subst hx9
  rw [ht] at hB
  have hq1 := (vaP_hd hP).kept (hk1 q hqlt hnq)
  refine lv_i2l (v := (Int32.ofInt v).toInt64) hx hb dLat_8 rfl ?_
  have hD1 : va_D (zAl ad q s.heap.size) ((q, .inl (ct 101, 1, .inr (.inl F))) :: zw ad ct σ zPR) := vaD_cons (Or.inr rfl) hD (fun y hy => by obtain ⟨x, hx, e⟩ := zw_ad hy; rw [e]; exact hqn x hx)
  refine va_last (i := 0) hx hb hK (vaP_cons hq1 hB) hD1 hS1 0 1 rfl rfl (by unfold vp_in; decide +kernel) dLat_9 (fun H2 locs2 hP2 hD2 hS2 => ?_)
  refine lv_goto (tgt := 17) hx hb dLat_10 (by decide) ?_
  refine lv_iconst (v := 0) hx hb dLat_17 (by decide) ?_
  exact vx_ret (W.iret (v := 0) hx hb hr0 (fun t ht hW => ⟨⟨0, (), rfl, (by decide +kernel), by show va_P D vwCl _ t.heap; rw [ht]; exact hP2⟩, hS2.F ht⟩) hS2.2.2 dLat_18)
def dLLtn_l0 : List (Nat × Instr × Nat) := [(0, .aload_n 3, 1), (1, .iconst 0, 1), (2, .aload_n 0, 1), (3, .iload_n 1, 1), (4, .iload_n 2, 1), (5, .invokevirtual 15, 3), (8, .i2l, 1), (9, .lastore, 1), (10, .goto (7), 3), (13, .astore 4, 2), (15, .iconst 1, 1), (16, .ireturn, 1), (17, .iconst 0, 1), (18, .ireturn, 1)]
theorem dLLtn_h0 : dall cL_town dLLtn_l0 = true := by decide +kernel
theorem dLtn_0 : decode cL_town 0 = .ok (.aload_n 3, 1) := dat dLLtn_h0 0 rfl
theorem dLtn_1 : decode cL_town 1 = .ok (.iconst 0, 1) := dat dLLtn_h0 1 rfl
theorem dLtn_2 : decode cL_town 2 = .ok (.aload_n 0, 1) := dat dLLtn_h0 2 rfl
theorem dLtn_3 : decode cL_town 3 = .ok (.iload_n 1, 1) := dat dLLtn_h0 3 rfl
theorem dLtn_4 : decode cL_town 4 = .ok (.iload_n 2, 1) := dat dLLtn_h0 4 rfl
theorem dLtn_5 : decode cL_town 5 = .ok (.invokevirtual 15, 3) := dat dLLtn_h0 5 rfl
theorem dLtn_8 : decode cL_town 8 = .ok (.i2l, 1) := dat dLLtn_h0 6 rfl
theorem dLtn_9 : decode cL_town 9 = .ok (.lastore, 1) := dat dLLtn_h0 7 rfl
theorem dLtn_10 : decode cL_town 10 = .ok (.goto (7), 3) := dat dLLtn_h0 8 rfl
theorem dLtn_13 : decode cL_town 13 = .ok (.astore 4, 2) := dat dLLtn_h0 9 rfl
theorem dLtn_15 : decode cL_town 15 = .ok (.iconst 1, 1) := dat dLLtn_h0 10 rfl
theorem dLtn_16 : decode cL_town 16 = .ok (.ireturn, 1) := dat dLLtn_h0 11 rfl
theorem dLtn_17 : decode cL_town 17 = .ok (.iconst 0, 1) := dat dLLtn_h0 12 rfl
theorem dLtn_18 : decode cL_town 18 = .ok (.ireturn, 1) := dat dLLtn_h0 13 rfl
abbrev wsLtn : List Cond := .codeWith yL_town cL_town 5 (some .int) [(0, 10, 13, 13)] :: zTs
set_option maxHeartbeats 4000000 in
theorem lt_thr (hl9 : l.stackTraces = false) {r p0 : Int} (hk : isLand k) (h11 : σ 0 11 = (k : Int)) (hH : okH zPR σ) (hinj : zinj ad zPR) (hr : r32 r) (hp : r32 p0) (hev : f_Country_hasTown σ k r = some (σ, 0)) (hqn : ∀ x ∈ zPR, ad x.1 ≠ q) (sz : Nat) : vx_Met l yL_town wsLtn (rmL 1 6) (zPl D ad ct kw ss σ q F [.ref (ad 0), .int (Int32.ofInt r), .int (Int32.ofInt p0), .ref q] sz) (va_Qi (fun (x : Int32) (_ : Unit) => x = Int32.ofInt 1) (fun _ t => va_P D vwCl ((q, .inl (ct 101, 1, .inr (.inl F))) :: zw ad ct σ zPR) t.heap) (zAl ad q sz)) (vx_X (fun _ : Unit => False) (fun _ _ _ => True) (zAl ad q sz)) 1 6 (zAl ad q sz) := by
  refine vx_ofWH (cc := cL_town) (maxL := 5) (ret := some .int) (hh := [(0, 10, 13, 13)]) (by decide +kernel) rfl ?_
  intro p e s m args below meth c s₁ B hml hv
  obtain ⟨hargs, hsz, hP, hK, hSt, hTr⟩ := hv
  subst hsz
  have hts : ∀ w ∈ zTs, w.before args s = true := fun w hw => atoms_spec (ws := wsLtn) B.pre w (List.mem_cons_of_mem _ hw)
  have htb : c.exceptionTable.toList = tableOf [(0, 10, 13, 13)] := vx_table (x := yL_town) B (atoms_spec (ws := wsLtn) B.pre _ List.mem_cons_self)
  have hown : s.vm.findClass RL = some m.cls := findClass_of_methodNamed B.named
  have hx := B.exec
  have hb := B.bytes
  have hr0 := B.returns
  have hlocks := B.notSynchronized
  have hqlt : q < s.heap.size := (vaP_hd hP).lt
  have hnq : ¬ zA ad zPR s.heap.size q := by
    rintro (⟨x, hx, h⟩ | h)
    · exact hqn x hx h.symm
    · exact absurd hqlt (Nat.not_lt.mpr h)
  have hsub : ∀ z, zA ad zPR s.heap.size z → zAl ad q s.heap.size z := fun z h => Or.inl h
  have hD : va_D (zAl ad q s.heap.size) (zw ad ct σ zPR) := vaD_weak (zw_D zapR hinj) hsub
  have hq : entryFrame m args 5 = F0 m 0 ((lg_sl [.ref (ad 0), .int (Int32.ofInt r), .int (Int32.ofInt p0), .ref q] ++ List.replicate (5 - (lg_sl [.ref (ad 0), .int (Int32.ofInt r), .int (Int32.ofInt p0), .ref q]).length) Slot.unset).toArray) [] := by rw [hargs, lg_entry_eq]
  rw [hq]
  have hl0 := lv_entry [.ref (ad 0), .int (Int32.ofInt r), .int (Int32.ofInt p0), .ref q] (n := 5) (Nat.le_of_ble_eq_true rfl)
  generalize (lg_sl [.ref (ad 0), .int (Int32.ofInt r), .int (Int32.ofInt p0), .ref q] ++ List.replicate (5 - (lg_sl [.ref (ad 0), .int (Int32.ofInt r), .int (Int32.ofInt p0), .ref q]).length) Slot.unset).toArray = ls at hl0 ⊢
  have hl : lv_has ls 5 [(0, .ref (ad 0)), (1, .int (Int32.ofInt r)), (2, .int (Int32.ofInt p0)), (3, .ref q)] := hl0
  have hS : va_S (zAl ad q s.heap.size) s.heap s.heap [] := va_S.rf
  have hC : CallFix p m c cL_town 5 s args zTs RL := ⟨hx, hb, hml, hown, hts⟩
  refine lv_aload_n hx hb dLtn_0 rfl (lv_at hl 3 rfl) ?_
  refine lv_iconst (v := 0) hx hb dLtn_1 (by decide) ?_
  refine lv_aload_n hx hb dLtn_2 rfl (lv_at hl 0 rfl) ?_
  refine lv_iload_n hx hb dLtn_3 rfl (lv_at hl 1 rfl) ?_
  refine lv_iload_n hx hb dLtn_4 rfl (lv_at hl 2 rfl) ?_
  have hrun := vx_runV (l := l) (below := below) (e := e) (R := rmL 1 6) (meth := meth) (locs := []) (cells := 0) (slots := 0) (g := F0 m 5 ls [.int (Int32.ofInt p0), .int (Int32.ofInt r), .ref (ad 0), .int 0, .ref q]) (As := [.int (Int32.ofInt r), .int (Int32.ofInt p0)]) (rest := [.int 0, .ref q]) hC (tn_thr (kw := kw) (ss := ss) (D := D) (ct := ct) hl9 hk h11 hH hinj hr hp hev s.heap.size) (cwV (y := yX10_town) (bytes := cX10_town) (maxL := 3) (ret := some .int) (ws' := zTs) 2 hts (zGoodV zmoKtn (tm6 13 rfl rfl) (tm6 14 rfl rfl) (tm6 15 rfl rfl)) rfl rfl rfl ⟨rfl, zmoKtn.2.1, zmoKtn.2.2.1, (by decide +kernel)⟩ ⟨Nat.le_of_ble_eq_true rfl, Nat.le_of_ble_eq_true rfl⟩) ⟨zPt_blind, va_recv (ci := 10) (q := (RX10, TX10, 18)) hK (vaP_tl hP) rfl zw_0, fun U hU hW => ⟨rfl, by rw [hU], by rw [hU]; exact vaP_tl hP, hK.moved hW.alike, zSt_moved hSt hW hU hS hsub, zTr_moved hTr hW hU hS hsub⟩⟩ rfl rfl hl.1 rfl (lv_room (Nat.le_of_ble_eq_true rfl)) dLtn_5 ⟨Nat.le_of_ble_eq_true rfl, Nat.le_of_ble_eq_true rfl⟩
  refine vx_calli hrun hS (fun z _ h => hsub z h) hsub (fun z _ h => hsub z h) (fun E ce q9 u t H1 locs1 ht hvm hu hB hz1 hk1 hS1 hcell hv hcl => ?_) (fun x u t H1 locs1 ht hvm hu hB hz1 hk1 hS1 => hu.elim)
  obtain ⟨rfl, hPt⟩ := hB
  rw [ht] at hPt
  have hq1 := (vaP_hd hP).kept (hk1 q hqlt hnq)
  refine vx_catch (own := RL) (name := zNSE) hown [] ⟨0, 10, 13, 13⟩ [] htb (fun z hz => nomatch hz) (by decide) (by decide) (hts _ zkL13) (va_Nw.use rfl hTr.1.2.2.2) hcell hv hcl ?_
  refine lv_astore (lv' := [(4, .ref q9), (0, .ref (ad 0)), (1, .int (Int32.ofInt r)), (2, .int (Int32.ofInt p0)), (3, .ref q)]) hx hb dLtn_13 hl (by decide) rfl (fun ls hl => ?_)
  refine lv_iconst (v := 1) hx hb dLtn_15 (by decide) ?_
  exact vx_ret (W.iret (v := 1) hx hb hr0 (fun t ht hW => ⟨⟨1, (), rfl, (by decide +kernel), by show va_P D vwCl _ t.heap; rw [ht]; exact vaP_cons hq1 hPt⟩, hS1.F ht⟩) hS1.2.2 dLtn_16)
set_option maxHeartbeats 4000000 in
theorem lt_thr2 (hl9 : l.stackTraces = false) {r p0 : Int} (hk : isLand k) (h11 : σ 0 11 = (k : Int)) (hH : okH zPR σ) (hinj : zinj ad zPR) (hr : r32 r) (hp : r32 p0) (hev : f_Country_hasTown σ k r = some (σ, 1)) (hw : p0 < 0 ∨ 5 < p0) (hqn : ∀ x ∈ zPR, ad x.1 ≠ q) (sz : Nat) : vx_Met l yL_town wsLtn (rmL 1 6) (zPl D ad ct kw ss σ q F [.ref (ad 0), .int (Int32.ofInt r), .int (Int32.ofInt p0), .ref q] sz) (va_Qi (fun (x : Int32) (_ : Unit) => x = Int32.ofInt 1) (fun _ t => va_P D vwCl ((q, .inl (ct 101, 1, .inr (.inl F))) :: zw ad ct σ zPR) t.heap) (zAl ad q sz)) (vx_X (fun _ : Unit => False) (fun _ _ _ => True) (zAl ad q sz)) 1 6 (zAl ad q sz) := by
  refine vx_ofWH (cc := cL_town) (maxL := 5) (ret := some .int) (hh := [(0, 10, 13, 13)]) (by decide +kernel) rfl ?_
  intro p e s m args below meth c s₁ B hml hv
  obtain ⟨hargs, hsz, hP, hK, hSt, hTr⟩ := hv
  subst hsz
  have hts : ∀ w ∈ zTs, w.before args s = true := fun w hw => atoms_spec (ws := wsLtn) B.pre w (List.mem_cons_of_mem _ hw)
  have htb : c.exceptionTable.toList = tableOf [(0, 10, 13, 13)] := vx_table (x := yL_town) B (atoms_spec (ws := wsLtn) B.pre _ List.mem_cons_self)
  have hown : s.vm.findClass RL = some m.cls := findClass_of_methodNamed B.named
  have hx := B.exec
  have hb := B.bytes
  have hr0 := B.returns
  have hlocks := B.notSynchronized
  have hqlt : q < s.heap.size := (vaP_hd hP).lt
  have hnq : ¬ zA ad zPR s.heap.size q := by
    rintro (⟨x, hx, h⟩ | h)
    · exact hqn x hx h.symm
    · exact absurd hqlt (Nat.not_lt.mpr h)
  have hsub : ∀ z, zA ad zPR s.heap.size z → zAl ad q s.heap.size z := fun z h => Or.inl h
  have hD : va_D (zAl ad q s.heap.size) (zw ad ct σ zPR) := vaD_weak (zw_D zapR hinj) hsub
  have hq : entryFrame m args 5 = F0 m 0 ((lg_sl [.ref (ad 0), .int (Int32.ofInt r), .int (Int32.ofInt p0), .ref q] ++ List.replicate (5 - (lg_sl [.ref (ad 0), .int (Int32.ofInt r), .int (Int32.ofInt p0), .ref q]).length) Slot.unset).toArray) [] := by rw [hargs, lg_entry_eq]
  rw [hq]
  have hl0 := lv_entry [.ref (ad 0), .int (Int32.ofInt r), .int (Int32.ofInt p0), .ref q] (n := 5) (Nat.le_of_ble_eq_true rfl)
  generalize (lg_sl [.ref (ad 0), .int (Int32.ofInt r), .int (Int32.ofInt p0), .ref q] ++ List.replicate (5 - (lg_sl [.ref (ad 0), .int (Int32.ofInt r), .int (Int32.ofInt p0), .ref q]).length) Slot.unset).toArray = ls at hl0 ⊢
  have hl : lv_has ls 5 [(0, .ref (ad 0)), (1, .int (Int32.ofInt r)), (2, .int (Int32.ofInt p0)), (3, .ref q)] := hl0
  have hS : va_S (zAl ad q s.heap.size) s.heap s.heap [] := va_S.rf
  have hC : CallFix p m c cL_town 5 s args zTs RL := ⟨hx, hb, hml, hown, hts⟩
  refine lv_aload_n hx hb dLtn_0 rfl (lv_at hl 3 rfl) ?_
  refine lv_iconst (v := 0) hx hb dLtn_1 (by decide) ?_
  refine lv_aload_n hx hb dLtn_2 rfl (lv_at hl 0 rfl) ?_
  refine lv_iload_n hx hb dLtn_3 rfl (lv_at hl 1 rfl) ?_
  refine lv_iload_n hx hb dLtn_4 rfl (lv_at hl 2 rfl) ?_
  have hrun := vx_runV (l := l) (below := below) (e := e) (R := rmL 1 6) (meth := meth) (locs := []) (cells := 0) (slots := 0) (g := F0 m 5 ls [.int (Int32.ofInt p0), .int (Int32.ofInt r), .ref (ad 0), .int 0, .ref q]) (As := [.int (Int32.ofInt r), .int (Int32.ofInt p0)]) (rest := [.int 0, .ref q]) hC (tn_thr2 (kw := kw) (ss := ss) (D := D) (ct := ct) hl9 hk h11 hH hinj hr hp hev hw s.heap.size) (cwV (y := yX10_town) (bytes := cX10_town) (maxL := 3) (ret := some .int) (ws' := zTs) 2 hts (zGoodV zmoKtn (tm6 13 rfl rfl) (tm6 14 rfl rfl) (tm6 15 rfl rfl)) rfl rfl rfl ⟨rfl, zmoKtn.2.1, zmoKtn.2.2.1, (by decide +kernel)⟩ ⟨Nat.le_of_ble_eq_true rfl, Nat.le_of_ble_eq_true rfl⟩) ⟨zPt_blind, va_recv (ci := 10) (q := (RX10, TX10, 18)) hK (vaP_tl hP) rfl zw_0, fun U hU hW => ⟨rfl, by rw [hU], by rw [hU]; exact vaP_tl hP, hK.moved hW.alike, zSt_moved hSt hW hU hS hsub, zTr_moved hTr hW hU hS hsub⟩⟩ rfl rfl hl.1 rfl (lv_room (Nat.le_of_ble_eq_true rfl)) dLtn_5 ⟨Nat.le_of_ble_eq_true rfl, Nat.le_of_ble_eq_true rfl⟩
  refine vx_calli hrun hS (fun z _ h => hsub z h) hsub (fun z _ h => hsub z h) (fun E ce q9 u t H1 locs1 ht hvm hu hB hz1 hk1 hS1 hcell hv hcl => ?_) (fun x u t H1 locs1 ht hvm hu hB hz1 hk1 hS1 => hu.elim)
  obtain ⟨rfl, hPt⟩ := hB
  rw [ht] at hPt
  have hq1 := (vaP_hd hP).kept (hk1 q hqlt hnq)
  refine vx_catch (own := RL) (name := zNSE) hown [] ⟨0, 10, 13, 13⟩ [] htb (fun z hz => nomatch hz) (by decide) (by decide) (hts _ zkL13) (va_Nw.use rfl hTr.1.2.2.2) hcell hv hcl ?_
  refine lv_astore (lv' := [(4, .ref q9), (0, .ref (ad 0)), (1, .int (Int32.ofInt r)), (2, .int (Int32.ofInt p0)), (3, .ref q)]) hx hb dLtn_13 hl (by decide) rfl (fun ls hl => ?_)
  refine lv_iconst (v := 1) hx hb dLtn_15 (by decide) ?_
  exact vx_ret (W.iret (v := 1) hx hb hr0 (fun t ht hW => ⟨⟨1, (), rfl, (by decide +kernel), by show va_P D vwCl _ t.heap; rw [ht]; exact vaP_cons hq1 hPt⟩, hS1.F ht⟩) hS1.2.2 dLtn_16)
set_option maxHeartbeats 4000000 in
theorem lt_tel {r p0 : Int} (hk : isLand k) (h11 : σ 0 11 = (k : Int)) (hH : okH zPR σ) (hinj : zinj ad zPR) (hr : r32 r) (h6 : 0 ≤ r ∧ r < 6) (hw : 0 ≤ p0 ∧ p0 ≤ 5) (hev : f_Country_hasTown σ k r = some (σ, 1)) (hqn : ∀ x ∈ zPR, ad x.1 ≠ q) (sz : Nat) : vx_Met l yL_town wsLtn (rmL 0 0) (zPl D ad ct kw ss σ q F [.ref (ad 0), .int (Int32.ofInt r), .int (Int32.ofInt p0), .ref q] sz) (va_Qi (fun (x : Int32) (_ : Unit) => x = Int32.ofInt 0) (fun _ t => va_P D vwCl ((q, .inl (ct 101, 1, .inr (.inl (vp_updL F (Int32.toNatClampNeg 0) (Int32.ofInt (tnC σ k r p0)).toInt64)))) :: zw ad ct σ zPR) t.heap) (zAl ad q sz)) (vx_X (fun _ : Unit => False) (fun _ _ _ => True) (zAl ad q sz)) 0 0 (zAl ad q sz) := by
  refine vx_ofWH (cc := cL_town) (maxL := 5) (ret := some .int) (hh := [(0, 10, 13, 13)]) (by decide +kernel) rfl ?_
  intro p e s m args below meth c s₁ B hml hv
  obtain ⟨hargs, hsz, hP, hK, hSt, hTr⟩ := hv
  subst hsz
  have hts : ∀ w ∈ zTs, w.before args s = true := fun w hw => atoms_spec (ws := wsLtn) B.pre w (List.mem_cons_of_mem _ hw)
  have htb : c.exceptionTable.toList = tableOf [(0, 10, 13, 13)] := vx_table (x := yL_town) B (atoms_spec (ws := wsLtn) B.pre _ List.mem_cons_self)
  have hown : s.vm.findClass RL = some m.cls := findClass_of_methodNamed B.named
  have hx := B.exec
  have hb := B.bytes
  have hr0 := B.returns
  have hlocks := B.notSynchronized
  have hqlt : q < s.heap.size := (vaP_hd hP).lt
  have hnq : ¬ zA ad zPR s.heap.size q := by
    rintro (⟨x, hx, h⟩ | h)
    · exact hqn x hx h.symm
    · exact absurd hqlt (Nat.not_lt.mpr h)
  have hsub : ∀ z, zA ad zPR s.heap.size z → zAl ad q s.heap.size z := fun z h => Or.inl h
  have hD : va_D (zAl ad q s.heap.size) (zw ad ct σ zPR) := vaD_weak (zw_D zapR hinj) hsub
  have hq : entryFrame m args 5 = F0 m 0 ((lg_sl [.ref (ad 0), .int (Int32.ofInt r), .int (Int32.ofInt p0), .ref q] ++ List.replicate (5 - (lg_sl [.ref (ad 0), .int (Int32.ofInt r), .int (Int32.ofInt p0), .ref q]).length) Slot.unset).toArray) [] := by rw [hargs, lg_entry_eq]
  rw [hq]
  have hl0 := lv_entry [.ref (ad 0), .int (Int32.ofInt r), .int (Int32.ofInt p0), .ref q] (n := 5) (Nat.le_of_ble_eq_true rfl)
  generalize (lg_sl [.ref (ad 0), .int (Int32.ofInt r), .int (Int32.ofInt p0), .ref q] ++ List.replicate (5 - (lg_sl [.ref (ad 0), .int (Int32.ofInt r), .int (Int32.ofInt p0), .ref q]).length) Slot.unset).toArray = ls at hl0 ⊢
  have hl : lv_has ls 5 [(0, .ref (ad 0)), (1, .int (Int32.ofInt r)), (2, .int (Int32.ofInt p0)), (3, .ref q)] := hl0
  have hS : va_S (zAl ad q s.heap.size) s.heap s.heap [] := va_S.rf
  have hC : CallFix p m c cL_town 5 s args zTs RL := ⟨hx, hb, hml, hown, hts⟩
  refine lv_aload_n hx hb dLtn_0 rfl (lv_at hl 3 rfl) ?_
  refine lv_iconst (v := 0) hx hb dLtn_1 (by decide) ?_
  refine lv_aload_n hx hb dLtn_2 rfl (lv_at hl 0 rfl) ?_
  refine lv_iload_n hx hb dLtn_3 rfl (lv_at hl 1 rfl) ?_
  refine lv_iload_n hx hb dLtn_4 rfl (lv_at hl 2 rfl) ?_
  have hrun := va_runV (l := l) (below := below) (e := e) (R := rmL 0 0) (meth := meth) (locs := []) (cells := 0) (slots := 0) (g := F0 m 5 ls [.int (Int32.ofInt p0), .int (Int32.ofInt r), .ref (ad 0), .int 0, .ref q]) (As := [.int (Int32.ofInt r), .int (Int32.ofInt p0)]) (rest := [.int 0, .ref q]) hC (tn_tel (l := l) (kw := kw) (ss := ss) (D := D) (ct := ct) hk h11 hH hinj hr h6 hw hev s.heap.size) (cwV (y := yX10_town) (bytes := cX10_town) (maxL := 3) (ret := some .int) (ws' := zTs) 2 hts (zGoodV zmoKtn (tm6 13 rfl rfl) (tm6 14 rfl rfl) (tm6 15 rfl rfl)) rfl rfl rfl ⟨rfl, zmoKtn.2.1, zmoKtn.2.2.1, (by decide +kernel)⟩ ⟨Nat.le_of_ble_eq_true rfl, Nat.le_of_ble_eq_true rfl⟩) ⟨zPt_blind, va_recv (ci := 10) (q := (RX10, TX10, 18)) hK (vaP_tl hP) rfl zw_0, fun U hU hW => ⟨rfl, by rw [hU], by rw [hU]; exact vaP_tl hP, hK.moved hW.alike, zSt_moved hSt hW hU hS hsub, zTr_moved hTr hW hU hS hsub⟩⟩ rfl rfl hl.1 rfl (lv_room (Nat.le_of_ble_eq_true rfl)) dLtn_5 ⟨Nat.le_of_ble_eq_true rfl, Nat.le_of_ble_eq_true rfl⟩
  refine va_calli hrun hS (fun z _ h => hsub z h) hsub (fun x u t H1 locs1 ht hvm hx9 hB hz1 hk1 hS1 => ?_)
  subst hx9
  rw [ht] at hB
  have hq1 := (vaP_hd hP).kept (hk1 q hqlt hnq)
  refine lv_i2l (v := (Int32.ofInt (tnC σ k r p0)).toInt64) hx hb dLtn_8 rfl ?_
  have hD1 : va_D (zAl ad q s.heap.size) ((q, .inl (ct 101, 1, .inr (.inl F))) :: zw ad ct σ zPR) := vaD_cons (Or.inr rfl) hD (fun y hy => by obtain ⟨x, hx, e⟩ := zw_ad hy; rw [e]; exact hqn x hx)
  refine va_last (i := 0) hx hb hK (vaP_cons hq1 hB) hD1 hS1 0 1 rfl rfl (by unfold vp_in; decide +kernel) dLtn_9 (fun H2 locs2 hP2 hD2 hS2 => ?_)
  refine lv_goto (tgt := 17) hx hb dLtn_10 (by decide) ?_
  refine lv_iconst (v := 0) hx hb dLtn_17 (by decide) ?_
  exact vx_ret (W.iret (v := 0) hx hb hr0 (fun t ht hW => ⟨⟨0, (), rfl, (by decide +kernel), by show va_P D vwCl _ t.heap; rw [ht]; exact hP2⟩, hS2.F ht⟩) hS2.2.2 dLtn_18)
end ZLA
