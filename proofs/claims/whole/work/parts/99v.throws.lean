/-! RiverText.at and town by contract: they return, or they throw (by program) -/
section ZTH
abbrev MKat : zMt := (yX10_at, cX10_at, 3, 1, RX10)
theorem zmoKat : zMok MKat := ⟨zpl_10.1, zpl_10.2.1, zpl_10.2.2, (tm5 188 rfl rfl), zin_10, Nat.le_of_ble_eq_true rfl, rfl⟩
def dLat_l0 : List (Nat × Instr × Nat) := [(0, .aload_n 0, 1), (1, .getfield 19, 3), (4, .iload_n 1, 1), (5, .iload_n 2, 1), (6, .invokevirtual 164, 3), (9, .ifCond .ne (11), 3), (12, .new 168, 3), (15, .dup, 1), (16, .invokespecial 170, 3), (19, .athrow, 1), (20, .aload_n 0, 1), (21, .getfield 40, 3), (24, .aload_n 0, 1), (25, .getfield 19, 3), (28, .iload_n 1, 1), (29, .iload_n 2, 1), (30, .invokevirtual 171, 3), (33, .ireturn, 1)]
theorem dLat_h0 : dall cX10_at dLat_l0 = true := by decide +kernel
theorem dKat_0 : decode cX10_at 0 = .ok (.aload_n 0, 1) := dat dLat_h0 0 rfl
theorem dKat_1 : decode cX10_at 1 = .ok (.getfield 19, 3) := dat dLat_h0 1 rfl
theorem dKat_4 : decode cX10_at 4 = .ok (.iload_n 1, 1) := dat dLat_h0 2 rfl
theorem dKat_5 : decode cX10_at 5 = .ok (.iload_n 2, 1) := dat dLat_h0 3 rfl
theorem dKat_6 : decode cX10_at 6 = .ok (.invokevirtual 164, 3) := dat dLat_h0 4 rfl
theorem dKat_9 : decode cX10_at 9 = .ok (.ifCond .ne (11), 3) := dat dLat_h0 5 rfl
theorem dKat_12 : decode cX10_at 12 = .ok (.new 168, 3) := dat dLat_h0 6 rfl
theorem dKat_15 : decode cX10_at 15 = .ok (.dup, 1) := dat dLat_h0 7 rfl
theorem dKat_16 : decode cX10_at 16 = .ok (.invokespecial 170, 3) := dat dLat_h0 8 rfl
theorem dKat_19 : decode cX10_at 19 = .ok (.athrow, 1) := dat dLat_h0 9 rfl
theorem dKat_20 : decode cX10_at 20 = .ok (.aload_n 0, 1) := dat dLat_h0 10 rfl
theorem dKat_21 : decode cX10_at 21 = .ok (.getfield 40, 3) := dat dLat_h0 11 rfl
theorem dKat_24 : decode cX10_at 24 = .ok (.aload_n 0, 1) := dat dLat_h0 12 rfl
theorem dKat_25 : decode cX10_at 25 = .ok (.getfield 19, 3) := dat dLat_h0 13 rfl
theorem dKat_28 : decode cX10_at 28 = .ok (.iload_n 1, 1) := dat dLat_h0 14 rfl
theorem dKat_29 : decode cX10_at 29 = .ok (.iload_n 2, 1) := dat dLat_h0 15 rfl
theorem dKat_30 : decode cX10_at 30 = .ok (.invokevirtual 171, 3) := dat dLat_h0 16 rfl
theorem dKat_33 : decode cX10_at 33 = .ok (.ireturn, 1) := dat dLat_h0 17 rfl
abbrev MKtn : zMt := (yX10_town, cX10_town, 3, 1, RX10)
theorem zmoKtn : zMok MKtn := ⟨zpl_10.1, zpl_10.2.1, zpl_10.2.2, (tm6 16 rfl rfl), zin_10, Nat.le_of_ble_eq_true rfl, rfl⟩
def dLtn_l0 : List (Nat × Instr × Nat) := [(0, .aload_n 0, 1), (1, .getfield 19, 3), (4, .iload_n 1, 1), (5, .invokevirtual 196, 3), (8, .ifCond .ne (11), 3), (11, .new 168, 3), (14, .dup, 1), (15, .invokespecial 170, 3), (18, .athrow, 1), (19, .iload_n 2, 1), (60, .aload_n 0, 1), (61, .getfield 19, 3), (64, .getfield 199, 3), (67, .iload_n 1, 1), (68, .iaload, 1), (69, .ireturn, 1), (70, .aload_n 0, 1), (71, .getfield 19, 3), (74, .getfield 202, 3), (77, .iload_n 1, 1), (78, .iaload, 1), (79, .ireturn, 1), (80, .aload_n 0, 1), (81, .getfield 40, 3), (84, .getfield 205, 3), (87, .iload_n 1, 1), (88, .iaload, 1), (89, .ireturn, 1), (90, .aload_n 0, 1), (91, .getfield 40, 3), (94, .getfield 208, 3), (97, .iload_n 1, 1), (98, .iaload, 1), (99, .ireturn, 1), (100, .aload_n 0, 1), (101, .getfield 40, 3), (104, .getfield 211, 3), (107, .iload_n 1, 1), (108, .iaload, 1), (109, .ireturn, 1), (110, .aload_n 0, 1), (111, .getfield 40, 3), (114, .getfield 214, 3), (117, .iload_n 1, 1), (118, .iaload, 1), (119, .ireturn, 1), (120, .new 168, 3), (123, .dup, 1), (124, .invokespecial 170, 3), (127, .athrow, 1)]
theorem dLtn_h0 : dall cX10_town dLtn_l0 = true := by decide +kernel
theorem dKtn_0 : decode cX10_town 0 = .ok (.aload_n 0, 1) := dat dLtn_h0 0 rfl
theorem dKtn_1 : decode cX10_town 1 = .ok (.getfield 19, 3) := dat dLtn_h0 1 rfl
theorem dKtn_4 : decode cX10_town 4 = .ok (.iload_n 1, 1) := dat dLtn_h0 2 rfl
theorem dKtn_5 : decode cX10_town 5 = .ok (.invokevirtual 196, 3) := dat dLtn_h0 3 rfl
theorem dKtn_8 : decode cX10_town 8 = .ok (.ifCond .ne (11), 3) := dat dLtn_h0 4 rfl
theorem dKtn_11 : decode cX10_town 11 = .ok (.new 168, 3) := dat dLtn_h0 5 rfl
theorem dKtn_14 : decode cX10_town 14 = .ok (.dup, 1) := dat dLtn_h0 6 rfl
theorem dKtn_15 : decode cX10_town 15 = .ok (.invokespecial 170, 3) := dat dLtn_h0 7 rfl
theorem dKtn_18 : decode cX10_town 18 = .ok (.athrow, 1) := dat dLtn_h0 8 rfl
theorem dKtn_19 : decode cX10_town 19 = .ok (.iload_n 2, 1) := dat dLtn_h0 9 rfl
theorem dKtn_60 : decode cX10_town 60 = .ok (.aload_n 0, 1) := dat dLtn_h0 10 rfl
theorem dKtn_61 : decode cX10_town 61 = .ok (.getfield 19, 3) := dat dLtn_h0 11 rfl
theorem dKtn_64 : decode cX10_town 64 = .ok (.getfield 199, 3) := dat dLtn_h0 12 rfl
theorem dKtn_67 : decode cX10_town 67 = .ok (.iload_n 1, 1) := dat dLtn_h0 13 rfl
theorem dKtn_68 : decode cX10_town 68 = .ok (.iaload, 1) := dat dLtn_h0 14 rfl
theorem dKtn_69 : decode cX10_town 69 = .ok (.ireturn, 1) := dat dLtn_h0 15 rfl
theorem dKtn_70 : decode cX10_town 70 = .ok (.aload_n 0, 1) := dat dLtn_h0 16 rfl
theorem dKtn_71 : decode cX10_town 71 = .ok (.getfield 19, 3) := dat dLtn_h0 17 rfl
theorem dKtn_74 : decode cX10_town 74 = .ok (.getfield 202, 3) := dat dLtn_h0 18 rfl
theorem dKtn_77 : decode cX10_town 77 = .ok (.iload_n 1, 1) := dat dLtn_h0 19 rfl
theorem dKtn_78 : decode cX10_town 78 = .ok (.iaload, 1) := dat dLtn_h0 20 rfl
theorem dKtn_79 : decode cX10_town 79 = .ok (.ireturn, 1) := dat dLtn_h0 21 rfl
theorem dKtn_80 : decode cX10_town 80 = .ok (.aload_n 0, 1) := dat dLtn_h0 22 rfl
theorem dKtn_81 : decode cX10_town 81 = .ok (.getfield 40, 3) := dat dLtn_h0 23 rfl
theorem dKtn_84 : decode cX10_town 84 = .ok (.getfield 205, 3) := dat dLtn_h0 24 rfl
theorem dKtn_87 : decode cX10_town 87 = .ok (.iload_n 1, 1) := dat dLtn_h0 25 rfl
theorem dKtn_88 : decode cX10_town 88 = .ok (.iaload, 1) := dat dLtn_h0 26 rfl
theorem dKtn_89 : decode cX10_town 89 = .ok (.ireturn, 1) := dat dLtn_h0 27 rfl
theorem dKtn_90 : decode cX10_town 90 = .ok (.aload_n 0, 1) := dat dLtn_h0 28 rfl
theorem dKtn_91 : decode cX10_town 91 = .ok (.getfield 40, 3) := dat dLtn_h0 29 rfl
theorem dKtn_94 : decode cX10_town 94 = .ok (.getfield 208, 3) := dat dLtn_h0 30 rfl
theorem dKtn_97 : decode cX10_town 97 = .ok (.iload_n 1, 1) := dat dLtn_h0 31 rfl
theorem dKtn_98 : decode cX10_town 98 = .ok (.iaload, 1) := dat dLtn_h0 32 rfl
theorem dKtn_99 : decode cX10_town 99 = .ok (.ireturn, 1) := dat dLtn_h0 33 rfl
theorem dKtn_100 : decode cX10_town 100 = .ok (.aload_n 0, 1) := dat dLtn_h0 34 rfl
theorem dKtn_101 : decode cX10_town 101 = .ok (.getfield 40, 3) := dat dLtn_h0 35 rfl
theorem dKtn_104 : decode cX10_town 104 = .ok (.getfield 211, 3) := dat dLtn_h0 36 rfl
theorem dKtn_107 : decode cX10_town 107 = .ok (.iload_n 1, 1) := dat dLtn_h0 37 rfl
theorem dKtn_108 : decode cX10_town 108 = .ok (.iaload, 1) := dat dLtn_h0 38 rfl
theorem dKtn_109 : decode cX10_town 109 = .ok (.ireturn, 1) := dat dLtn_h0 39 rfl
theorem dKtn_110 : decode cX10_town 110 = .ok (.aload_n 0, 1) := dat dLtn_h0 40 rfl
theorem dKtn_111 : decode cX10_town 111 = .ok (.getfield 40, 3) := dat dLtn_h0 41 rfl
theorem dKtn_114 : decode cX10_town 114 = .ok (.getfield 214, 3) := dat dLtn_h0 42 rfl
theorem dKtn_117 : decode cX10_town 117 = .ok (.iload_n 1, 1) := dat dLtn_h0 43 rfl
theorem dKtn_118 : decode cX10_town 118 = .ok (.iaload, 1) := dat dLtn_h0 44 rfl
theorem dKtn_119 : decode cX10_town 119 = .ok (.ireturn, 1) := dat dLtn_h0 45 rfl
theorem dKtn_120 : decode cX10_town 120 = .ok (.new 168, 3) := dat dLtn_h0 46 rfl
theorem dKtn_123 : decode cX10_town 123 = .ok (.dup, 1) := dat dLtn_h0 47 rfl
theorem dKtn_124 : decode cX10_town 124 = .ok (.invokespecial 170, 3) := dat dLtn_h0 48 rfl
theorem dKtn_127 : decode cX10_town 127 = .ok (.athrow, 1) := dat dLtn_h0 49 rfl
theorem dKtn_20 : decode cX10_town 20 = .ok (.tableswitch 100 0 5 #[40, 50, 60, 70, 80, 90], 40) := by decide +kernel
def rmT (x z : Nat) : Room := { frames := 6, cells := x, slots := z, locals := 200 }
/-- as RiverText.at and town begin -/
def zPt (D : va_G) (ad : Nat → Nat) (ct : Nat → ClassId) (kw ss : Nat) (σ : zH) (as : List Value) (sz : Nat) : Array Value → State → Prop := va_Pc as (fun U => U.heap.size = sz ∧ va_P D vwCl (zw ad ct σ zPR) U.heap ∧ va_K D vwCl (ztys ct) U ∧ zSt kw ss (zA ad zPR sz) U ∧ zTr (zA ad zPR sz) U)
theorem zPt_blind {D : va_G} {ad : Nat → Nat} {ct : Nat → ClassId} {kw ss : Nat} {σ : zH} {as : List Value} {sz : Nat} : FrameBlind (zPt D ad ct kw ss σ as sz) := by
  intro a U g mk q
  obtain ⟨q0, q1, q2, q3, q4, q5⟩ := q
  exact ⟨q0, q1, q2, va_K.moved (u := U) (U := U.calling g mk a) (Vm.Alike.refl U.vm) q3, zSt_calling q4, zTr_calling q5⟩
theorem land_in {k : Nat} (hk : isLand k) : (k, 1, 0) ∈ zPR := by
  rcases hk with rfl | rfl
  · decide +kernel
  · decide +kernel
theorem land_row {k : Nat} (hk : isLand k) : (k + 11, 100, 6) ∈ zPR ∧ (k + 12, 100, 6) ∈ zPR := by
  rcases hk with rfl | rfl
  · decide +kernel
  · decide +kernel
theorem okV_land {k : Nat} (hk : isLand k) : okV zPR (.inr (.inr (.inr (1, 0, k)))) := land_in hk
theorem zNx_of {D : va_G} {ad : Nat → Nat} {ct : Nat → ClassId} {σ : zH} {A : Nat → Prop} {s t : State} {H : Heap} {locs : List Loc} (hP : va_P D vwCl (zw ad ct σ zPR) H) (hS : va_S A s.heap H locs) (h1 : H.size ≤ t.heap.size) (h2 : ∀ q : Nat, q < H.size → t.heap[q]? = H[q]?) : vx_X (fun _ : Unit => True) (fun E _ t => E = zNSE ∧ va_P D vwCl (zw ad ct σ zPR) t.heap) A zNSE s t :=
  ⟨(), trivial, ⟨rfl, moreP hP h2⟩, Nat.le_trans hS.1 h1, fun q q1 q2 => (h2 q (Nat.lt_of_lt_of_le q1 hS.1)).trans (hS.2.1 q q1 q2)⟩
variable {l : Launch} {D : va_G} {ad : Nat → Nat} {ct : Nat → ClassId} {kw ss : Nat} {σ : zH} {k : Nat}
theorem zk168 : Cond.classLink RX10 168 zNSE ∈ zTs := (tm5 189 rfl rfl)
theorem zkini : Cond.initialized zNSE ∈ zTs := (tm1 18 rfl rfl)
set_option maxHeartbeats 4000000 in
theorem at_thr (hl9 : l.stackTraces = false) {r p0 : Int} (hk : isLand k) (h11 : σ 0 11 = (k : Int)) (hH : okH zPR σ) (hinj : zinj ad zPR) (hr : r32 r) (hp : r32 p0) (hev : f_Country_hasPlace σ k r p0 = some (σ, 0)) (sz : Nat) : vx_Met l yX10_at (zws MKat) (rmT 1 6) (zPt D ad ct kw ss σ [.ref (ad 0), .int (Int32.ofInt r), .int (Int32.ofInt p0)] sz) (va_Qi (fun (_ : Int32) (_ : Unit) => False) (fun _ _ => True) (zA ad zPR sz)) (vx_X (fun _ : Unit => True) (fun E _ t => E = zNSE ∧ va_P D vwCl (zw ad ct σ zPR) t.heap) (zA ad zPR sz)) 1 6 (zA ad zPR sz) := by
  refine vx_ofW (cc := cX10_at) (maxL := 3) (ret := some .int) zmoKat.1 rfl ?_
  intro p e s m args below meth c s₁ B hml hex hv
  obtain ⟨hargs, hsz, hP, hK, hSt, hTr⟩ := hv
  subst hsz
  have hts : ∀ w ∈ zTs, w.before args s = true := fun w hw => atoms_spec (ws := zws MKat) B.pre w (List.mem_cons_of_mem _ hw)
  have hown : s.vm.findClass RX10 = some m.cls := findClass_of_methodNamed B.named
  have hx := B.exec
  have hb := B.bytes
  have hr0 := B.returns
  have hlocks := B.notSynchronized
  have hD : va_D (zA ad zPR s.heap.size) (zw ad ct σ zPR) := zw_D zapR hinj
  have hA : ∀ q : Nat, s.heap.size ≤ q → zA ad zPR s.heap.size q := fun q hq => Or.inr hq
  have hq : entryFrame m args 3 = F0 m 0 ((lg_sl [.ref (ad 0), .int (Int32.ofInt r), .int (Int32.ofInt p0)] ++ List.replicate (3 - (lg_sl [.ref (ad 0), .int (Int32.ofInt r), .int (Int32.ofInt p0)]).length) Slot.unset).toArray) [] := by rw [hargs, lg_entry_eq]
  rw [hq]
  have hl0 := lv_entry [.ref (ad 0), .int (Int32.ofInt r), .int (Int32.ofInt p0)] (n := 3) (Nat.le_of_ble_eq_true rfl)
  generalize (lg_sl [.ref (ad 0), .int (Int32.ofInt r), .int (Int32.ofInt p0)] ++ List.replicate (3 - (lg_sl [.ref (ad 0), .int (Int32.ofInt r), .int (Int32.ofInt p0)]).length) Slot.unset).toArray = ls at hl0 ⊢
  have hl : lv_has ls 3 [(0, .ref (ad 0)), (1, .int (Int32.ofInt r)), (2, .int (Int32.ofInt p0))] := hl0
  generalize zA ad zPR s.heap.size = A at hSt hTr hD hA ⊢
  have hS : va_S A s.heap s.heap [] := va_S.rf
  have hC : CallFix p m c cX10_at 3 s args zTs RX10 := ⟨hx, hb, hml, hown, hts⟩
  refine lv_aload_n hx hb dKat_0 rfl (lv_at hl 0 rfl) ?_
  refine zGet hC hK hP (k0 := 0) (c0 := 10) (slot := 11) (v := .ref (ad k)) List.mem_cons_self (by decide) zcw10 rfl (by decide) (by decide +kernel) (tm2 211 rfl rfl) (by show Value.ref (ad (σ 0 11).toNat) = _; rw [h11]; rfl) dKat_1 ?_
  refine lv_iload_n hx hb dKat_4 rfl (lv_at hl 1 rfl) ?_
  refine lv_iload_n hx hb dKat_5 rfl (lv_at hl 2 rfl) ?_
  refine zCallI (cm := 8) (cr := 1) (c0 := 1) (k0 := k) (t := [.inl r, .inl p0]) (n := 2) (x := 0) (σ2 := σ) (P := zPR) (M := (yX1_hasPlace, cX1_hasPlace, 3, 3, RX1)) zmt_8 hC hK hSt hA hP hD hS zapR zclR hH (land_in hk) (by decide) (okS_cons.mpr ⟨hr, okS_cons.mpr ⟨hp, fun _ h => nomatch h⟩⟩) hev zmo_8 rfl (tm4 91 rfl rfl) (tm4 92 rfl rfl) (tm4 93 rfl rfl) (by decide +kernel) (by decide) rfl hl.1 rfl ⟨Nat.le_of_ble_eq_true rfl, Nat.le_of_ble_eq_true rfl⟩ (Nat.le_of_ble_eq_true rfl) ⟨Nat.le_of_ble_eq_true rfl, Nat.le_of_ble_eq_true rfl⟩ dKat_6 (fun H locs hP hD _ _ _ hS => ?_)
  refine lv_if_ne (tgt := 20) hx hb dKat_9 (by decide) (fun hc => absurd (by decide +kernel) hc) (fun _ => ?_)
  refine vx_throw0 (own := RX10) (cls := zNSE) (names := zUp) (ik := 168) (ic := 170) hx hb hl9 hown (by decide +kernel) (by decide +kernel) (hts _ zk168) (hts _ zkini) (zx_all hts hTr) zx_ot hTr.2.1 hTr.2.2 hS (hl.1.trans hml.symm) dKat_12 dKat_15 dKat_16 dKat_19 (fun x hx9 => (hex x hx9).elim) (by decide +kernel) (by decide +kernel) (Nat.le_of_ble_eq_true rfl) (Nat.le_of_ble_eq_true rfl) hlocks (fun t _ h1 h2 => zNx_of hP hS h1 h2) hS.2.2 (Nat.le_of_ble_eq_true rfl) (Nat.le_of_ble_eq_true rfl)
set_option maxHeartbeats 4000000 in
theorem at_tel {r p0 v : Int} (hk : isLand k) (h11 : σ 0 11 = (k : Int)) (hH : okH zPR σ) (hinj : zinj ad zPR) (hr : r32 r) (hp : r32 p0) (hev : f_Country_hasPlace σ k r p0 = some (σ, 1)) (hev2 : f_Stream_termAt σ 96 k r p0 = some (σ, v)) (sz : Nat) : Met l yX10_at (zws MKat) (rmT 0 0) (zPt D ad ct kw ss σ [.ref (ad 0), .int (Int32.ofInt r), .int (Int32.ofInt p0)] sz) (va_Qi (fun (x : Int32) (_ : Unit) => x = Int32.ofInt v) (fun _ t => va_P D vwCl (zw ad ct σ zPR) t.heap) (zA ad zPR sz)) 0 0 (zA ad zPR sz) := by
  refine Met.ofW (cc := cX10_at) (maxL := 3) (ret := some .int) zmoKat.1 rfl ?_
  intro p e s m args below meth c s₁ B hml hv
  obtain ⟨hargs, hsz, hP, hK, hSt, hTr⟩ := hv
  subst hsz
  have hts : ∀ w ∈ zTs, w.before args s = true := fun w hw => atoms_spec (ws := zws MKat) B.pre w (List.mem_cons_of_mem _ hw)
  have hown : s.vm.findClass RX10 = some m.cls := findClass_of_methodNamed B.named
  have hx := B.exec
  have hb := B.bytes
  have hr0 := B.returns
  have hlocks := B.notSynchronized
  have hD : va_D (zA ad zPR s.heap.size) (zw ad ct σ zPR) := zw_D zapR hinj
  have hA : ∀ q : Nat, s.heap.size ≤ q → zA ad zPR s.heap.size q := fun q hq => Or.inr hq
  have hq : entryFrame m args 3 = F0 m 0 ((lg_sl [.ref (ad 0), .int (Int32.ofInt r), .int (Int32.ofInt p0)] ++ List.replicate (3 - (lg_sl [.ref (ad 0), .int (Int32.ofInt r), .int (Int32.ofInt p0)]).length) Slot.unset).toArray) [] := by rw [hargs, lg_entry_eq]
  rw [hq]
  have hl0 := lv_entry [.ref (ad 0), .int (Int32.ofInt r), .int (Int32.ofInt p0)] (n := 3) (Nat.le_of_ble_eq_true rfl)
  generalize (lg_sl [.ref (ad 0), .int (Int32.ofInt r), .int (Int32.ofInt p0)] ++ List.replicate (3 - (lg_sl [.ref (ad 0), .int (Int32.ofInt r), .int (Int32.ofInt p0)]).length) Slot.unset).toArray = ls at hl0 ⊢
  have hl : lv_has ls 3 [(0, .ref (ad 0)), (1, .int (Int32.ofInt r)), (2, .int (Int32.ofInt p0))] := hl0
  generalize zA ad zPR s.heap.size = A at hSt hTr hD hA ⊢
  have hS : va_S A s.heap s.heap [] := va_S.rf
  have hC : CallFix p m c cX10_at 3 s args zTs RX10 := ⟨hx, hb, hml, hown, hts⟩
  refine lv_aload_n hx hb dKat_0 rfl (lv_at hl 0 rfl) ?_
  refine zGet hC hK hP (k0 := 0) (c0 := 10) (slot := 11) (v := .ref (ad k)) List.mem_cons_self (by decide) zcw10 rfl (by decide) (by decide +kernel) (tm2 211 rfl rfl) (by show Value.ref (ad (σ 0 11).toNat) = _; rw [h11]; rfl) dKat_1 ?_
  refine lv_iload_n hx hb dKat_4 rfl (lv_at hl 1 rfl) ?_
  refine lv_iload_n hx hb dKat_5 rfl (lv_at hl 2 rfl) ?_
  refine zCallI (cm := 8) (cr := 1) (c0 := 1) (k0 := k) (t := [.inl r, .inl p0]) (n := 2) (x := 1) (σ2 := σ) (P := zPR) (M := (yX1_hasPlace, cX1_hasPlace, 3, 3, RX1)) zmt_8 hC hK hSt hA hP hD hS zapR zclR hH (land_in hk) (by decide) (okS_cons.mpr ⟨hr, okS_cons.mpr ⟨hp, fun _ h => nomatch h⟩⟩) hev zmo_8 rfl (tm4 91 rfl rfl) (tm4 92 rfl rfl) (tm4 93 rfl rfl) (by decide +kernel) (by decide) rfl hl.1 rfl ⟨Nat.le_of_ble_eq_true rfl, Nat.le_of_ble_eq_true rfl⟩ (Nat.le_of_ble_eq_true rfl) ⟨Nat.le_of_ble_eq_true rfl, Nat.le_of_ble_eq_true rfl⟩ dKat_6 (fun H locs hP hD _ _ _ hS => ?_)
  refine lv_if_ne (tgt := 20) hx hb dKat_9 (by decide) (fun _ => ?_) (fun hc => absurd hc (by decide +kernel))
  refine lv_aload_n hx hb dKat_20 rfl (lv_at hl 0 rfl) ?_
  refine zGet hC hK hP (k0 := 0) (c0 := 10) (slot := 2) (v := .ref (ad 96)) List.mem_cons_self (by decide) zcw10 rfl (by decide) (by decide +kernel) (tm2 202 rfl rfl) rfl dKat_21 ?_
  refine lv_aload_n hx hb dKat_24 rfl (lv_at hl 0 rfl) ?_
  refine zGet hC hK hP (k0 := 0) (c0 := 10) (slot := 11) (v := .ref (ad k)) List.mem_cons_self (by decide) zcw10 rfl (by decide) (by decide +kernel) (tm2 211 rfl rfl) (by show Value.ref (ad (σ 0 11).toNat) = _; rw [h11]; rfl) dKat_25 ?_
  refine lv_iload_n hx hb dKat_28 rfl (lv_at hl 1 rfl) ?_
  refine lv_iload_n hx hb dKat_29 rfl (lv_at hl 2 rfl) ?_
  refine zCallI (cm := 75) (cr := 1) (c0 := 8) (k0 := 96) (t := [.inr (.inr (.inr (1, 0, k))), .inl r, .inl p0]) (n := 3) (x := v) (σ2 := σ) (P := zPR) (M := (yX8_termAt, cX8_termAt, 4, 1, RX8)) zmt_75 hC hK hSt hA hP hD hS zapR zclR hH (by decide +kernel) (by decide) (okS_cons.mpr ⟨okV_land hk, okS_cons.mpr ⟨hr, okS_cons.mpr ⟨hp, fun _ h => nomatch h⟩⟩⟩) hev2 zmo_75 rfl (tm4 95 rfl rfl) (tm4 51 rfl rfl) (tm4 52 rfl rfl) (by decide +kernel) (by decide) rfl hl.1 rfl ⟨Nat.le_of_ble_eq_true rfl, Nat.le_of_ble_eq_true rfl⟩ (Nat.le_of_ble_eq_true rfl) ⟨Nat.le_of_ble_eq_true rfl, Nat.le_of_ble_eq_true rfl⟩ dKat_30 (fun H locs hP hD _ _ _ hS => ?_)
  exact W.iret (v := Int32.ofInt v) hx hb hr0 (fun t ht hW => ⟨⟨Int32.ofInt v, (), rfl, rfl, by show va_P D vwCl _ t.heap; rw [ht]; exact hP⟩, hS.F ht⟩) hS.2.2 dKat_33
set_option maxHeartbeats 4000000 in
theorem tn_thr (hl9 : l.stackTraces = false) {r w : Int} (hk : isLand k) (h11 : σ 0 11 = (k : Int)) (hH : okH zPR σ) (hinj : zinj ad zPR) (hr : r32 r) (hp : r32 w) (hev : f_Country_hasTown σ k r = some (σ, 0)) (sz : Nat) : vx_Met l yX10_town (zws MKtn) (rmT 1 6) (zPt D ad ct kw ss σ [.ref (ad 0), .int (Int32.ofInt r), .int (Int32.ofInt w)] sz) (va_Qi (fun (_ : Int32) (_ : Unit) => False) (fun _ _ => True) (zA ad zPR sz)) (vx_X (fun _ : Unit => True) (fun E _ t => E = zNSE ∧ va_P D vwCl (zw ad ct σ zPR) t.heap) (zA ad zPR sz)) 1 6 (zA ad zPR sz) := by
  refine vx_ofW (cc := cX10_town) (maxL := 3) (ret := some .int) zmoKtn.1 rfl ?_
  intro p e s m args below meth c s₁ B hml hex hv
  obtain ⟨hargs, hsz, hP, hK, hSt, hTr⟩ := hv
  subst hsz
  have hts : ∀ w ∈ zTs, w.before args s = true := fun w hw => atoms_spec (ws := zws MKtn) B.pre w (List.mem_cons_of_mem _ hw)
  have hown : s.vm.findClass RX10 = some m.cls := findClass_of_methodNamed B.named
  have hx := B.exec
  have hb := B.bytes
  have hr0 := B.returns
  have hlocks := B.notSynchronized
  have hD : va_D (zA ad zPR s.heap.size) (zw ad ct σ zPR) := zw_D zapR hinj
  have hA : ∀ q : Nat, s.heap.size ≤ q → zA ad zPR s.heap.size q := fun q hq => Or.inr hq
  have hq : entryFrame m args 3 = F0 m 0 ((lg_sl [.ref (ad 0), .int (Int32.ofInt r), .int (Int32.ofInt w)] ++ List.replicate (3 - (lg_sl [.ref (ad 0), .int (Int32.ofInt r), .int (Int32.ofInt w)]).length) Slot.unset).toArray) [] := by rw [hargs, lg_entry_eq]
  rw [hq]
  have hl0 := lv_entry [.ref (ad 0), .int (Int32.ofInt r), .int (Int32.ofInt w)] (n := 3) (Nat.le_of_ble_eq_true rfl)
  generalize (lg_sl [.ref (ad 0), .int (Int32.ofInt r), .int (Int32.ofInt w)] ++ List.replicate (3 - (lg_sl [.ref (ad 0), .int (Int32.ofInt r), .int (Int32.ofInt w)]).length) Slot.unset).toArray = ls at hl0 ⊢
  have hl : lv_has ls 3 [(0, .ref (ad 0)), (1, .int (Int32.ofInt r)), (2, .int (Int32.ofInt w))] := hl0
  generalize zA ad zPR s.heap.size = A at hSt hTr hD hA ⊢
  have hS : va_S A s.heap s.heap [] := va_S.rf
  have hC : CallFix p m c cX10_town 3 s args zTs RX10 := ⟨hx, hb, hml, hown, hts⟩
  refine lv_aload_n hx hb dKtn_0 rfl (lv_at hl 0 rfl) ?_
  refine zGet hC hK hP (k0 := 0) (c0 := 10) (slot := 11) (v := .ref (ad k)) List.mem_cons_self (by decide) zcw10 rfl (by decide) (by decide +kernel) (tm2 211 rfl rfl) (by show Value.ref (ad (σ 0 11).toNat) = _; rw [h11]; rfl) dKtn_1 ?_
  refine lv_iload_n hx hb dKtn_4 rfl (lv_at hl 1 rfl) ?_
  refine zCallI (cm := 10) (cr := 0) (c0 := 1) (k0 := k) (t := [.inl r]) (n := 1) (x := 0) (σ2 := σ) (P := zPR) (M := (yX1_hasTown, cX1_hasTown, 2, 3, RX1)) zmt_10 hC hK hSt hA hP hD hS zapR zclR hH (land_in hk) (by decide) (okS_cons.mpr ⟨hr, fun _ h => nomatch h⟩) hev zmo_10 rfl (tm4 109 rfl rfl) (tm4 110 rfl rfl) (tm4 111 rfl rfl) (by decide +kernel) (by decide) rfl hl.1 rfl ⟨Nat.le_of_ble_eq_true rfl, Nat.le_of_ble_eq_true rfl⟩ (Nat.le_of_ble_eq_true rfl) ⟨Nat.le_of_ble_eq_true rfl, Nat.le_of_ble_eq_true rfl⟩ dKtn_5 (fun H locs hP hD _ _ _ hS => ?_)
  refine lv_if_ne (tgt := 19) hx hb dKtn_8 (by decide) (fun hc => absurd (by decide +kernel) hc) (fun _ => ?_)
  refine vx_throw0 (own := RX10) (cls := zNSE) (names := zUp) (ik := 168) (ic := 170) hx hb hl9 hown (by decide +kernel) (by decide +kernel) (hts _ zk168) (hts _ zkini) (zx_all hts hTr) zx_ot hTr.2.1 hTr.2.2 hS (hl.1.trans hml.symm) dKtn_11 dKtn_14 dKtn_15 dKtn_18 (fun x hx9 => (hex x hx9).elim) (by decide +kernel) (by decide +kernel) (Nat.le_of_ble_eq_true rfl) (Nat.le_of_ble_eq_true rfl) hlocks (fun t _ h1 h2 => zNx_of hP hS h1 h2) hS.2.2 (Nat.le_of_ble_eq_true rfl) (Nat.le_of_ble_eq_true rfl)
set_option maxHeartbeats 4000000 in
theorem tn_thr2 (hl9 : l.stackTraces = false) {r w : Int} (hk : isLand k) (h11 : σ 0 11 = (k : Int)) (hH : okH zPR σ) (hinj : zinj ad zPR) (hr : r32 r) (hp : r32 w) (hev : f_Country_hasTown σ k r = some (σ, 1)) (hw : w < 0 ∨ 5 < w) (sz : Nat) : vx_Met l yX10_town (zws MKtn) (rmT 1 6) (zPt D ad ct kw ss σ [.ref (ad 0), .int (Int32.ofInt r), .int (Int32.ofInt w)] sz) (va_Qi (fun (_ : Int32) (_ : Unit) => False) (fun _ _ => True) (zA ad zPR sz)) (vx_X (fun _ : Unit => True) (fun E _ t => E = zNSE ∧ va_P D vwCl (zw ad ct σ zPR) t.heap) (zA ad zPR sz)) 1 6 (zA ad zPR sz) := by
  refine vx_ofW (cc := cX10_town) (maxL := 3) (ret := some .int) zmoKtn.1 rfl ?_
  intro p e s m args below meth c s₁ B hml hex hv
  obtain ⟨hargs, hsz, hP, hK, hSt, hTr⟩ := hv
  subst hsz
  have hts : ∀ w ∈ zTs, w.before args s = true := fun w hw => atoms_spec (ws := zws MKtn) B.pre w (List.mem_cons_of_mem _ hw)
  have hown : s.vm.findClass RX10 = some m.cls := findClass_of_methodNamed B.named
  have hx := B.exec
  have hb := B.bytes
  have hr0 := B.returns
  have hlocks := B.notSynchronized
  have hD : va_D (zA ad zPR s.heap.size) (zw ad ct σ zPR) := zw_D zapR hinj
  have hA : ∀ q : Nat, s.heap.size ≤ q → zA ad zPR s.heap.size q := fun q hq => Or.inr hq
  have hq : entryFrame m args 3 = F0 m 0 ((lg_sl [.ref (ad 0), .int (Int32.ofInt r), .int (Int32.ofInt w)] ++ List.replicate (3 - (lg_sl [.ref (ad 0), .int (Int32.ofInt r), .int (Int32.ofInt w)]).length) Slot.unset).toArray) [] := by rw [hargs, lg_entry_eq]
  rw [hq]
  have hl0 := lv_entry [.ref (ad 0), .int (Int32.ofInt r), .int (Int32.ofInt w)] (n := 3) (Nat.le_of_ble_eq_true rfl)
  generalize (lg_sl [.ref (ad 0), .int (Int32.ofInt r), .int (Int32.ofInt w)] ++ List.replicate (3 - (lg_sl [.ref (ad 0), .int (Int32.ofInt r), .int (Int32.ofInt w)]).length) Slot.unset).toArray = ls at hl0 ⊢
  have hl : lv_has ls 3 [(0, .ref (ad 0)), (1, .int (Int32.ofInt r)), (2, .int (Int32.ofInt w))] := hl0
  generalize zA ad zPR s.heap.size = A at hSt hTr hD hA ⊢
  have hS : va_S A s.heap s.heap [] := va_S.rf
  have hC : CallFix p m c cX10_town 3 s args zTs RX10 := ⟨hx, hb, hml, hown, hts⟩
  refine lv_aload_n hx hb dKtn_0 rfl (lv_at hl 0 rfl) ?_
  refine zGet hC hK hP (k0 := 0) (c0 := 10) (slot := 11) (v := .ref (ad k)) List.mem_cons_self (by decide) zcw10 rfl (by decide) (by decide +kernel) (tm2 211 rfl rfl) (by show Value.ref (ad (σ 0 11).toNat) = _; rw [h11]; rfl) dKtn_1 ?_
  refine lv_iload_n hx hb dKtn_4 rfl (lv_at hl 1 rfl) ?_
  refine zCallI (cm := 10) (cr := 0) (c0 := 1) (k0 := k) (t := [.inl r]) (n := 1) (x := 1) (σ2 := σ) (P := zPR) (M := (yX1_hasTown, cX1_hasTown, 2, 3, RX1)) zmt_10 hC hK hSt hA hP hD hS zapR zclR hH (land_in hk) (by decide) (okS_cons.mpr ⟨hr, fun _ h => nomatch h⟩) hev zmo_10 rfl (tm4 109 rfl rfl) (tm4 110 rfl rfl) (tm4 111 rfl rfl) (by decide +kernel) (by decide) rfl hl.1 rfl ⟨Nat.le_of_ble_eq_true rfl, Nat.le_of_ble_eq_true rfl⟩ (Nat.le_of_ble_eq_true rfl) ⟨Nat.le_of_ble_eq_true rfl, Nat.le_of_ble_eq_true rfl⟩ dKtn_5 (fun H locs hP hD _ _ _ hS => ?_)
  refine lv_if_ne (tgt := 19) hx hb dKtn_8 (by decide) (fun _ => ?_) (fun hc => absurd hc (by decide +kernel))
  refine lv_iload_n hx hb dKtn_19 rfl (lv_at hl 2 rfl) ?_
  refine lv_tableOut (tgt := 120) hx hb dKtn_20 (by rw [to_of hp]; exact hw) (by decide) ?_
  refine vx_throw0 (own := RX10) (cls := zNSE) (names := zUp) (ik := 168) (ic := 170) hx hb hl9 hown (by decide +kernel) (by decide +kernel) (hts _ zk168) (hts _ zkini) (zx_all hts hTr) zx_ot hTr.2.1 hTr.2.2 hS (hl.1.trans hml.symm) dKtn_120 dKtn_123 dKtn_124 dKtn_127 (fun x hx9 => (hex x hx9).elim) (by decide +kernel) (by decide +kernel) (Nat.le_of_ble_eq_true rfl) (Nat.le_of_ble_eq_true rfl) hlocks (fun t _ h1 h2 => zNx_of hP hS h1 h2) hS.2.2 (Nat.le_of_ble_eq_true rfl) (Nat.le_of_ble_eq_true rfl)
set_option maxHeartbeats 8000000 in
theorem tn_tel {r w : Int} (hk : isLand k) (h11 : σ 0 11 = (k : Int)) (hH : okH zPR σ) (hinj : zinj ad zPR) (hr : r32 r) (h6 : 0 ≤ r ∧ r < 6) (hw : 0 ≤ w ∧ w ≤ 5) (hev : f_Country_hasTown σ k r = some (σ, 1)) (sz : Nat) : Met l yX10_town (zws MKtn) (rmT 0 0) (zPt D ad ct kw ss σ [.ref (ad 0), .int (Int32.ofInt r), .int (Int32.ofInt w)] sz) (va_Qi (fun (x : Int32) (_ : Unit) => x = Int32.ofInt (tnC σ k r w)) (fun _ t => va_P D vwCl (zw ad ct σ zPR) t.heap) (zA ad zPR sz)) 0 0 (zA ad zPR sz) := by
  refine Met.ofW (cc := cX10_town) (maxL := 3) (ret := some .int) zmoKtn.1 rfl ?_
  intro p e s m args below meth c s₁ B hml hv
  obtain ⟨hargs, hsz, hP, hK, hSt, hTr⟩ := hv
  subst hsz
  have hts : ∀ w ∈ zTs, w.before args s = true := fun w hw => atoms_spec (ws := zws MKtn) B.pre w (List.mem_cons_of_mem _ hw)
  have hown : s.vm.findClass RX10 = some m.cls := findClass_of_methodNamed B.named
  have hx := B.exec
  have hb := B.bytes
  have hr0 := B.returns
  have hlocks := B.notSynchronized
  have hD : va_D (zA ad zPR s.heap.size) (zw ad ct σ zPR) := zw_D zapR hinj
  have hA : ∀ q : Nat, s.heap.size ≤ q → zA ad zPR s.heap.size q := fun q hq => Or.inr hq
  have hq : entryFrame m args 3 = F0 m 0 ((lg_sl [.ref (ad 0), .int (Int32.ofInt r), .int (Int32.ofInt w)] ++ List.replicate (3 - (lg_sl [.ref (ad 0), .int (Int32.ofInt r), .int (Int32.ofInt w)]).length) Slot.unset).toArray) [] := by rw [hargs, lg_entry_eq]
  rw [hq]
  have hl0 := lv_entry [.ref (ad 0), .int (Int32.ofInt r), .int (Int32.ofInt w)] (n := 3) (Nat.le_of_ble_eq_true rfl)
  generalize (lg_sl [.ref (ad 0), .int (Int32.ofInt r), .int (Int32.ofInt w)] ++ List.replicate (3 - (lg_sl [.ref (ad 0), .int (Int32.ofInt r), .int (Int32.ofInt w)]).length) Slot.unset).toArray = ls at hl0 ⊢
  have hl : lv_has ls 3 [(0, .ref (ad 0)), (1, .int (Int32.ofInt r)), (2, .int (Int32.ofInt w))] := hl0
  generalize zA ad zPR s.heap.size = A at hSt hTr hD hA ⊢
  have hS : va_S A s.heap s.heap [] := va_S.rf
  have hC : CallFix p m c cX10_town 3 s args zTs RX10 := ⟨hx, hb, hml, hown, hts⟩
  refine lv_aload_n hx hb dKtn_0 rfl (lv_at hl 0 rfl) ?_
  refine zGet hC hK hP (k0 := 0) (c0 := 10) (slot := 11) (v := .ref (ad k)) List.mem_cons_self (by decide) zcw10 rfl (by decide) (by decide +kernel) (tm2 211 rfl rfl) (by show Value.ref (ad (σ 0 11).toNat) = _; rw [h11]; rfl) dKtn_1 ?_
  refine lv_iload_n hx hb dKtn_4 rfl (lv_at hl 1 rfl) ?_
  refine zCallI (cm := 10) (cr := 0) (c0 := 1) (k0 := k) (t := [.inl r]) (n := 1) (x := 1) (σ2 := σ) (P := zPR) (M := (yX1_hasTown, cX1_hasTown, 2, 3, RX1)) zmt_10 hC hK hSt hA hP hD hS zapR zclR hH (land_in hk) (by decide) (okS_cons.mpr ⟨hr, fun _ h => nomatch h⟩) hev zmo_10 rfl (tm4 109 rfl rfl) (tm4 110 rfl rfl) (tm4 111 rfl rfl) (by decide +kernel) (by decide) rfl hl.1 rfl ⟨Nat.le_of_ble_eq_true rfl, Nat.le_of_ble_eq_true rfl⟩ (Nat.le_of_ble_eq_true rfl) ⟨Nat.le_of_ble_eq_true rfl, Nat.le_of_ble_eq_true rfl⟩ dKtn_5 (fun H locs hP hD _ _ _ hS => ?_)
  refine lv_if_ne (tgt := 19) hx hb dKtn_8 (by decide) (fun _ => ?_) (fun hc => absurd hc (by decide +kernel))
  refine lv_iload_n hx hb dKtn_19 rfl (lv_at hl 2 rfl) ?_
  have hz : zin r 6 = true := zin_iff.mpr ⟨h6.1, h6.2⟩
  have hw6 : w = 0 ∨ w = 1 ∨ w = 2 ∨ w = 3 ∨ w = 4 ∨ w = 5 := by omega
  rcases hw6 with rfl | rfl | rfl | rfl | rfl | rfl
  · refine lv_tableIn (tgt := 60) (off := 40) hx hb dKtn_20 (by decide +kernel) (by decide +kernel) (by decide +kernel) (by decide) ?_
    refine lv_aload_n hx hb dKtn_60 rfl (lv_at hl 0 rfl) ?_
    refine zGet hC hK hP (k0 := 0) (c0 := 10) (slot := 11) (v := .ref (ad k)) List.mem_cons_self (by decide) zcw10 rfl (by decide) (by decide +kernel) (tm2 211 rfl rfl) (by show Value.ref (ad (σ 0 11).toNat) = _; rw [h11]; rfl) dKtn_61 ?_
    refine zGet hC hK hP (k0 := k) (c0 := 1) (slot := 10) (v := .ref (ad (k + 11))) (land_in hk) (by decide) zcw1 rfl (by decide) (by decide +kernel) (tm1 142 rfl rfl) rfl dKtn_64 ?_
    refine lv_iload_n hx hb dKtn_67 rfl (lv_at hl 1 rfl) ?_
    refine zAld hC hK hP (k := k + 11) (len := 6) (land_row hk).1 hr hz dKtn_68 ?_
    exact W.iret (v := Int32.ofInt (σ (k + 11) r.toNat)) hx hb hr0 (fun t ht hW => ⟨⟨Int32.ofInt (σ (k + 11) r.toNat), (), rfl, rfl, by show va_P D vwCl _ t.heap; rw [ht]; exact hP⟩, hS.F ht⟩) hS.2.2 dKtn_69
  · refine lv_tableIn (tgt := 70) (off := 50) hx hb dKtn_20 (by decide +kernel) (by decide +kernel) (by decide +kernel) (by decide) ?_
    refine lv_aload_n hx hb dKtn_70 rfl (lv_at hl 0 rfl) ?_
    refine zGet hC hK hP (k0 := 0) (c0 := 10) (slot := 11) (v := .ref (ad k)) List.mem_cons_self (by decide) zcw10 rfl (by decide) (by decide +kernel) (tm2 211 rfl rfl) (by show Value.ref (ad (σ 0 11).toNat) = _; rw [h11]; rfl) dKtn_71 ?_
    refine zGet hC hK hP (k0 := k) (c0 := 1) (slot := 11) (v := .ref (ad (k + 12))) (land_in hk) (by decide) zcw1 rfl (by decide) (by decide +kernel) (tm1 146 rfl rfl) rfl dKtn_74 ?_
    refine lv_iload_n hx hb dKtn_77 rfl (lv_at hl 1 rfl) ?_
    refine zAld hC hK hP (k := k + 12) (len := 6) (land_row hk).2 hr hz dKtn_78 ?_
    exact W.iret (v := Int32.ofInt (σ (k + 12) r.toNat)) hx hb hr0 (fun t ht hW => ⟨⟨Int32.ofInt (σ (k + 12) r.toNat), (), rfl, rfl, by show va_P D vwCl _ t.heap; rw [ht]; exact hP⟩, hS.F ht⟩) hS.2.2 dKtn_79
  · refine lv_tableIn (tgt := 80) (off := 60) hx hb dKtn_20 (by decide +kernel) (by decide +kernel) (by decide +kernel) (by decide) ?_
    refine lv_aload_n hx hb dKtn_80 rfl (lv_at hl 0 rfl) ?_
    refine zGet hC hK hP (k0 := 0) (c0 := 10) (slot := 2) (v := .ref (ad 96)) List.mem_cons_self (by decide) zcw10 rfl (by decide) (by decide +kernel) (tm2 202 rfl rfl) rfl dKtn_81 ?_
    refine zGet hC hK hP (k0 := 96) (c0 := 8) (slot := 4) (v := .ref (ad (101))) (by decide +kernel) (by decide) zcw8 rfl (by decide) (by decide +kernel) (tm2 21 rfl rfl) rfl dKtn_84 ?_
    refine lv_iload_n hx hb dKtn_87 rfl (lv_at hl 1 rfl) ?_
    refine zAld hC hK hP (k := 101) (len := 6) (by decide +kernel) hr hz dKtn_88 ?_
    exact W.iret (v := Int32.ofInt (σ (101) r.toNat)) hx hb hr0 (fun t ht hW => ⟨⟨Int32.ofInt (σ (101) r.toNat), (), rfl, rfl, by show va_P D vwCl _ t.heap; rw [ht]; exact hP⟩, hS.F ht⟩) hS.2.2 dKtn_89
  · refine lv_tableIn (tgt := 90) (off := 70) hx hb dKtn_20 (by decide +kernel) (by decide +kernel) (by decide +kernel) (by decide) ?_
    refine lv_aload_n hx hb dKtn_90 rfl (lv_at hl 0 rfl) ?_
    refine zGet hC hK hP (k0 := 0) (c0 := 10) (slot := 2) (v := .ref (ad 96)) List.mem_cons_self (by decide) zcw10 rfl (by decide) (by decide +kernel) (tm2 202 rfl rfl) rfl dKtn_91 ?_
    refine zGet hC hK hP (k0 := 96) (c0 := 8) (slot := 5) (v := .ref (ad (102))) (by decide +kernel) (by decide) zcw8 rfl (by decide) (by decide +kernel) (tm2 24 rfl rfl) rfl dKtn_94 ?_
    refine lv_iload_n hx hb dKtn_97 rfl (lv_at hl 1 rfl) ?_
    refine zAld hC hK hP (k := 102) (len := 6) (by decide +kernel) hr hz dKtn_98 ?_
    exact W.iret (v := Int32.ofInt (σ (102) r.toNat)) hx hb hr0 (fun t ht hW => ⟨⟨Int32.ofInt (σ (102) r.toNat), (), rfl, rfl, by show va_P D vwCl _ t.heap; rw [ht]; exact hP⟩, hS.F ht⟩) hS.2.2 dKtn_99
  · refine lv_tableIn (tgt := 100) (off := 80) hx hb dKtn_20 (by decide +kernel) (by decide +kernel) (by decide +kernel) (by decide) ?_
    refine lv_aload_n hx hb dKtn_100 rfl (lv_at hl 0 rfl) ?_
    refine zGet hC hK hP (k0 := 0) (c0 := 10) (slot := 2) (v := .ref (ad 96)) List.mem_cons_self (by decide) zcw10 rfl (by decide) (by decide +kernel) (tm2 202 rfl rfl) rfl dKtn_101 ?_
    refine zGet hC hK hP (k0 := 96) (c0 := 8) (slot := 6) (v := .ref (ad (103))) (by decide +kernel) (by decide) zcw8 rfl (by decide) (by decide +kernel) (tm2 27 rfl rfl) rfl dKtn_104 ?_
    refine lv_iload_n hx hb dKtn_107 rfl (lv_at hl 1 rfl) ?_
    refine zAld hC hK hP (k := 103) (len := 6) (by decide +kernel) hr hz dKtn_108 ?_
    exact W.iret (v := Int32.ofInt (σ (103) r.toNat)) hx hb hr0 (fun t ht hW => ⟨⟨Int32.ofInt (σ (103) r.toNat), (), rfl, rfl, by show va_P D vwCl _ t.heap; rw [ht]; exact hP⟩, hS.F ht⟩) hS.2.2 dKtn_109
  · refine lv_tableIn (tgt := 110) (off := 90) hx hb dKtn_20 (by decide +kernel) (by decide +kernel) (by decide +kernel) (by decide) ?_
    refine lv_aload_n hx hb dKtn_110 rfl (lv_at hl 0 rfl) ?_
    refine zGet hC hK hP (k0 := 0) (c0 := 10) (slot := 2) (v := .ref (ad 96)) List.mem_cons_self (by decide) zcw10 rfl (by decide) (by decide +kernel) (tm2 202 rfl rfl) rfl dKtn_111 ?_
    refine zGet hC hK hP (k0 := 96) (c0 := 8) (slot := 7) (v := .ref (ad (104))) (by decide +kernel) (by decide) zcw8 rfl (by decide) (by decide +kernel) (tm2 30 rfl rfl) rfl dKtn_114 ?_
    refine lv_iload_n hx hb dKtn_117 rfl (lv_at hl 1 rfl) ?_
    refine zAld hC hK hP (k := 104) (len := 6) (by decide +kernel) hr hz dKtn_118 ?_
    exact W.iret (v := Int32.ofInt (σ (104) r.toNat)) hx hb hr0 (fun t ht hW => ⟨⟨Int32.ofInt (σ (104) r.toNat), (), rfl, rfl, by show va_P D vwCl _ t.heap; rw [ht]; exact hP⟩, hS.F ht⟩) hS.2.2 dKtn_119
end ZTH
