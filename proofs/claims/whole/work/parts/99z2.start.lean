/-! THE LAW: its loop, from its entry (by program) -/
section ZS2
def dWl_l0 : List (Nat × Instr × Nat) := [(0, .new 8, 3), (3, .dup, 1), (4, .invokespecial 18, 3), (7, .astore_n 1, 1), (8, .new 19, 3), (11, .dup, 1), (12, .invokespecial 21, 3), (15, .astore_n 2, 1), (16, .iconst 1, 1), (17, .newarray .long, 2), (19, .astore_n 3, 1), (20, .iconst 0, 1), (21, .istore 4, 2), (23, .iload 4, 2), (25, .aload_n 0, 1), (26, .arraylength, 1), (27, .bipush (6), 2), (29, .isub, 1), (30, .if_icmp .gt (1582), 3), (33, .aload_n 0, 1), (34, .iload 4, 2), (36, .iaload, 1), (37, .bipush (63), 2), (39, .iand, 1), (1606, .iinc 4 (6), 3), (1609, .goto (-1586), 3), (1612, .iconst 1, 1), (1613, .ireturn, 1)]
theorem dWl_h0 : dall code dWl_l0 = true := by decide +kernel
theorem dW_0 : decode code 0 = .ok (.new 8, 3) := dat dWl_h0 0 rfl
theorem dW_3 : decode code 3 = .ok (.dup, 1) := dat dWl_h0 1 rfl
theorem dW_4 : decode code 4 = .ok (.invokespecial 18, 3) := dat dWl_h0 2 rfl
theorem dW_7 : decode code 7 = .ok (.astore_n 1, 1) := dat dWl_h0 3 rfl
theorem dW_8 : decode code 8 = .ok (.new 19, 3) := dat dWl_h0 4 rfl
theorem dW_11 : decode code 11 = .ok (.dup, 1) := dat dWl_h0 5 rfl
theorem dW_12 : decode code 12 = .ok (.invokespecial 21, 3) := dat dWl_h0 6 rfl
theorem dW_15 : decode code 15 = .ok (.astore_n 2, 1) := dat dWl_h0 7 rfl
theorem dW_16 : decode code 16 = .ok (.iconst 1, 1) := dat dWl_h0 8 rfl
theorem dW_17 : decode code 17 = .ok (.newarray .long, 2) := dat dWl_h0 9 rfl
theorem dW_19 : decode code 19 = .ok (.astore_n 3, 1) := dat dWl_h0 10 rfl
theorem dW_20 : decode code 20 = .ok (.iconst 0, 1) := dat dWl_h0 11 rfl
theorem dW_21 : decode code 21 = .ok (.istore 4, 2) := dat dWl_h0 12 rfl
theorem dW_23 : decode code 23 = .ok (.iload 4, 2) := dat dWl_h0 13 rfl
theorem dW_25 : decode code 25 = .ok (.aload_n 0, 1) := dat dWl_h0 14 rfl
theorem dW_26 : decode code 26 = .ok (.arraylength, 1) := dat dWl_h0 15 rfl
theorem dW_27 : decode code 27 = .ok (.bipush (6), 2) := dat dWl_h0 16 rfl
theorem dW_29 : decode code 29 = .ok (.isub, 1) := dat dWl_h0 17 rfl
theorem dW_30 : decode code 30 = .ok (.if_icmp .gt (1582), 3) := dat dWl_h0 18 rfl
theorem dW_33 : decode code 33 = .ok (.aload_n 0, 1) := dat dWl_h0 19 rfl
theorem dW_34 : decode code 34 = .ok (.iload 4, 2) := dat dWl_h0 20 rfl
theorem dW_36 : decode code 36 = .ok (.iaload, 1) := dat dWl_h0 21 rfl
theorem dW_37 : decode code 37 = .ok (.bipush (63), 2) := dat dWl_h0 22 rfl
theorem dW_39 : decode code 39 = .ok (.iand, 1) := dat dWl_h0 23 rfl
theorem dW_1606 : decode code 1606 = .ok (.iinc 4 (6), 3) := dat dWl_h0 24 rfl
theorem dW_1609 : decode code 1609 = .ok (.goto (-1586), 3) := dat dWl_h0 25 rfl
theorem dW_1612 : decode code 1612 = .ok (.iconst 1, 1) := dat dWl_h0 26 rfl
theorem dW_1613 : decode code 1613 = .ok (.ireturn, 1) := dat dWl_h0 27 rfl
theorem dW_40 : decode code 40 = .ok (.tableswitch 1566 0 42 #[188, 261, 286, 299, 312, 337, 374, 442, 479, 516, 584, 609, 634, 671, 720, 733, 770, 795, 820, 869, 894, 919, 956, 982, 1007, 1032, 1069, 1094, 1143, 1168, 1181, 1230, 1255, 1304, 1341, 1354, 1403, 1428, 1453, 1466, 1491, 1516, 1541], 188) := by decide +kernel
section
variable {p : Program} {l : Launch} {e : Env} {R : Room} {s : State} {m : MethodId} {args : Array Value} {below : List Frame} {meth : Method} {c : Code} {Q : State → Prop} {D : va_G} {A : Nat → Prop} {nL : Nat} {cc : ByteArray} {own : String} {ct : Nat → ClassId} {kw ss : Nat}
variable {H : Heap} {locs : List Loc} {cells slots pc : Nat} {ls : Array Slot} {ws : va_W} {rest : List Value}
theorem kCallM (hS0 : CallFix p m c cc nL s args zTs own) (hK : va_K D vwCl (ztys ct) s) (hSt : zSk kw ss A s) (hA : ∀ q : Nat, s.heap.size ≤ q → A q) {ci k idx n q : Nat} {M : zMt} {fs0 as : List Value} {σ : zH} {P : zP} {rm : Room} {mc ms : Nat} (hM : zCon M ci k fs0 as σ P rm mc ms) (hP : va_P D vwCl (ws ++ [(q, .inr (ci, fs0))]) H) (hD : va_D A (ws ++ [(q, .inr (ci, fs0))])) (hS : va_S A s.heap H locs) (hok : zMok M) (h0 : M.2.2.2.1 = 0) (hrc : rm.cells = mc) (hrs : rm.slots = ms) (hnm : M.1.name = "<init>") (hlink : Cond.methodLink own idx M.1 ∈ zTs) (hin1 : Cond.instanceMethod M.1 ∈ zTs) (hnp : znp M.1 = some n) (hn : as.length = n) (hl : ls.size = nL) (hroom : rm.frames + 1 ≤ R.frames ∧ 8 + (M.2.2.1 + 11) + rm.locals ≤ R.locals) (hwd : (rest.map fun v => v.category).sum ≤ 8) (hf : cells + mc ≤ R.cells ∧ slots + ms ≤ R.slots) (hd1 : decode cc pc = .ok (.invokespecial idx, 3)) {st0 : List Value} (hst : st0 = as.reverse ++ .ref q :: rest)
    (kk : ∀ (ad : Nat → Nat) (H1 : Heap) (locs1 : List Loc), ad k = q → va_P D vwCl (ws ++ zw ad ct σ P) H1 → va_D A (ws ++ zw ad ct σ P) → va_S A s.heap H1 locs1 → W p l e R s m args below meth c H1 locs1 (cells + mc) (slots + ms) Q (F0 m (pc + 3) ls rest)) : W p l e R s m args below meth c H locs cells slots Q (F0 m pc ls st0) := by
  obtain ⟨hx, hb, hml, hown, hts⟩ := id hS0
  have hC : [ws.length].map (fun i => (ws ++ [(q, (.inr (ci, fs0) : va_E))])[i]?) = [(q, (.inr (ci, fs0) : va_E))].map some := by simp
  have hR : (List.range' 0 ws.length).map (fun i => (ws ++ [(q, (.inr (ci, fs0) : va_E))])[i]?) = ws.map some := by
    apply List.ext_getElem?
    intro j
    simp only [List.getElem?_map, List.getElem?_range', Nat.zero_add]
    by_cases hj : j < ws.length
    · simp [hj, List.getElem?_append_left hj]
    · simp [hj]
  have hPc : va_P D vwCl [(q, (.inr (ci, fs0) : va_E))] H := fun i x hx => by
    have hi : i < 1 := (List.getElem?_eq_some_iff.mp hx).1
    rw [show i = 0 by omega] at hx
    cases hx
    exact hP ws.length _ (by simp)
  have hFc := va_free (wc := [(q, (.inr (ci, fs0) : va_E))]) hD hS hA [ws.length] hC
  have hrm : va_Run p l e R s m args below meth c H locs cells slots mc ms (F0 m pc ls st0) rest _ _ := va_runI (As := as) (rest := rest) (bytes := M.2.1) (maxL := M.2.2.1) (n := n) (index := idx) ⟨hx, hb, hml, hown, hts⟩ (hM l D ct kw ss q H.size) ?_ ⟨fun a U g mk z => by obtain ⟨q0, q1, q2, q3, q4⟩ := z; exact ⟨q0, q1, q2, va_K.moved (u := U) (U := U.calling g mk a) (Vm.Alike.refl U.vm) q3, zSk_calling q4⟩, fun U hU hW => ⟨rfl, by rw [hU], by rw [hU]; exact hPc, hK.moved hW.alike, zSk_moved hSt hW hU hS hFc⟩⟩ rfl hn hl hst (lv_room hwd) hd1 hf
  · refine va_callv hrm hS (fun z _ h => hFc z h) hFc (fun ad t H1 locs1 ht hvm hw hB hz1 hk1 hS1 => ?_)
    obtain ⟨hP1, hD1⟩ := hB
    rw [ht] at hP1
    obtain ⟨hP2, hD2⟩ := va_join hP hD [ws.length] (List.range' 0 ws.length) hC hR (nd_range _ _) (fun i hi hj => by simp only [List.mem_range', List.mem_singleton] at hi hj; omega) hk1 hFc hP1 hD1
    exact kk ad H1 locs1 hw hP2 hD2 hS1
  · refine cwI n hts (fun w hw => ?_) (show zws M = .code M.1 M.2.1 M.2.2.1 none :: zTs by unfold zws; rw [h0]; rfl) hrc hrs ?_ (hts _ hlink) (hts _ hin1) ?_ ?_ hroom
    · exact zGood_ws hok w hw
    · exact hts _ hok.2.2.2.2.1
    · exact hnm
    · exact ⟨hok.2.1, hok.2.2.1, hnp⟩
end
theorem vaD_app {A : Nat → Prop} {X Y : va_W} (h : va_D A (X ++ Y)) : va_D A X ∧ va_D A Y ∧ ∀ x ∈ X, ∀ y ∈ Y, x.1 ≠ y.1 := by
  have hl : ∀ (i : Nat) (x : Nat × va_E), X[i]? = some x → (X ++ Y)[i]? = some x := fun i x hx => by rw [List.getElem?_append_left (List.getElem?_eq_some_iff.mp hx).1]; exact hx
  have hr : ∀ (i : Nat) (x : Nat × va_E), Y[i]? = some x → (X ++ Y)[X.length + i]? = some x := fun i x hx => by rw [List.getElem?_append_right (Nat.le_add_right _ _), Nat.add_sub_cancel_left]; exact hx
  refine ⟨⟨fun i j a b ha hb hab => h.1 i j a b (hl i a ha) (hl j b hb) hab, fun k a ha => h.2 k a (hl k a ha)⟩, ⟨fun i j a b ha hb hab => Nat.add_left_cancel (h.1 _ _ a b (hr i a ha) (hr j b hb) hab), fun k a ha => h.2 _ a (hr k a ha)⟩, fun x hx y hy hxy => ?_⟩
  obtain ⟨i, hi⟩ := List.mem_iff_getElem?.mp hx
  obtain ⟨j, hj⟩ := List.mem_iff_getElem?.mp hy
  have hij := h.1 i (X.length + j) x y (hl i x hi) (hr j y hj) hxy
  have hlt := (List.getElem?_eq_some_iff.mp hi).1
  omega
theorem vaP_app {D : va_G} {cl : List vw_C} {X Y : va_W} {H : Heap} (h : va_P D cl (X ++ Y) H) : va_P D cl X H ∧ va_P D cl Y H :=
  ⟨fun k q hq => h k q (by rw [List.getElem?_append_left (List.getElem?_eq_some_iff.mp hq).1]; exact hq), fun k q hq => h (X.length + k) q (by rw [List.getElem?_append_right (Nat.le_add_right _ _), Nat.add_sub_cancel_left]; exact hq)⟩
theorem zw_mem {ad : Nat → Nat} {ct : Nat → ClassId} {σ : zH} {P : zP} {x : Nat × Nat × Nat} (h : x ∈ P) : ∃ y ∈ zw ad ct σ P, y.1 = ad x.1 := ⟨zcell ad ct σ x, List.mem_map.mpr ⟨x, h, rfl⟩, rfl⟩
section
variable {p : Program} {l : Launch} {e : Env} {s : State} {m : MethodId} {below : List Frame} {meth : Method} {c : Code} {D : va_G} {ad am : Nat → Nat} {ct : Nat → ClassId} {kw ss : Nat} {b L q : Nat} {xs : Nat → Int32}
set_option maxHeartbeats 8000000 in
theorem law_loop (hW : zLw p l s m #[Value.ref b] c D ad am ct kw ss b L xs q) (hr : meth.sig.returnType = ret) (hlocks : meth.locks = false) : ∀ (n j : Nat) (σ τ : zH) (F : Nat → Int64) (H : Heap) (locs : List Loc) (ls : Array Slot), zIv s D ad am ct q σ τ F H locs → lv_has ls 7 [(0, .ref b), (1, .ref (ad 0)), (2, .ref (am 0)), (3, .ref q), (4, .int (Int32.ofInt ((6 * j : Nat) : Int)))] → 6 * j ≤ L → L < 6 * j + 6 * n → W p l e room_1 s m #[Value.ref b] below meth c H locs (225 + j) (29232 + 6 * j) (lw_Z below #[Value.ref b] s) (F0 m 23 ls []) := by
  have hW0 := hW
  obtain ⟨hS0, hK, hSt, hTr, hX, hbl, hL, hF, hfl⟩ := hW0
  have hx := hS0.1
  have hb := hS0.2.1
  intro n
  induction n with
  | zero =>
    intro j σ τ F H locs ls _ _ h1 h2
    exact absurd h2 (by omega)
  | succ n ih =>
    intro j σ τ F H locs ls hI hl hj hn
    have hS := hI.2.2.2.2.2.2
    have eL : Int32.ofNat L - 6 = Int32.ofInt ((L : Int) - 6) := by
      rw [Int32.ofInt_sub]
      rfl
    have rL : r32 ((L : Int) - 6) := ⟨by omega, by omega⟩
    have rj : r32 ((6 * j : Nat) : Int) := ⟨by omega, by omega⟩
    refine lv_iload hx hb dW_23 (lv_at hl 4 rfl) ?_
    refine lv_aload_n hx hb dW_25 rfl (lv_at hl 0 rfl) ?_
    refine va_slen hx hb hX hbl (Nat.not_le.mpr hbl) hS dW_26 ?_
    refine lv_bipush (v := 6) hx hb dW_27 (by decide) ?_
    refine lv_isub hx hb dW_29 ?_
    rw [eL]
    refine lv_icmp_gt (tgt := 1612) hx hb dW_30 (by decide) (fun hc => ?_) (fun hc => ?_)
    · refine lv_iconst (v := 1) hx hb dW_1612 (by decide) ?_
      refine va_forget (fun z hz => hS.2.2 z hz) ?_
      refine W.widen (k := 601024) (n := 7293034) (by omega) (by omega) ?_
      exact lw_ret hx hb hr hlocks dW_1613
    · rw [of_lt rL rj] at hc
      have hi : 6 * j + 6 ≤ L := by omega
      have KON : ∀ (σ' τ' : zH) (F' : Nat → Int64) (H' : Heap) (locs' : List Loc) (ls' : Array Slot), zIv s D ad am ct q σ' τ' F' H' locs' → lv_has ls' 7 [(0, .ref b), (1, .ref (ad 0)), (2, .ref (am 0)), (3, .ref q), (4, .int (Int32.ofInt ((6 * j : Nat) : Int)))] → W p l e room_1 s m #[Value.ref b] below meth c H' locs' (225 + j + 1) (29232 + 6 * j + 6) (lw_Z below #[Value.ref b] s) (F0 m 1606 ls' []) := by
        intro σ' τ' F' H' locs' ls' hI' hl'
        refine lv_iinc (v := Int32.ofInt ((6 * (j + 1) : Nat) : Int)) (lv' := [(4, .int (Int32.ofInt ((6 * (j + 1) : Nat) : Int))), (0, .ref b), (1, .ref (ad 0)), (2, .ref (am 0)), (3, .ref q)]) hx hb dW_1606 hl' (k := 4) rfl (by rw [← Int32.ofInt_add]; rfl) (by decide) rfl (fun ls hl => ?_)
        refine lv_goto (tgt := 23) hx hb dW_1609 (by decide) ?_
        exact ih (j + 1) σ' τ' F' H' locs' ls hI' (lv_sub hl [1, 2, 3, 4, 0] rfl) (by omega) (by omega)
      obtain ⟨h1, h2⟩ := vp_in_of_zin (i := ((6 * j : Nat) : Int)) (n := L) rj (zin_iff.mpr ⟨by omega, by omega⟩)
      refine lv_aload_n hx hb dW_33 rfl (lv_at hl 0 rfl) ?_
      refine lv_iload hx hb dW_34 (lv_at hl 4 rfl) ?_
      refine va_sld hx hb hX hbl (Nat.not_le.mpr hbl) hS h1 dW_36 ?_
      refine lv_bipush (v := 63) hx hb dW_37 (by decide) ?_
      refine lv_iand hx hb dW_39 ?_
      refine lv_topi (fun y hy => ?_)
      have hcs : 225 + j + 1 ≤ room_1.cells ∧ 29232 + 6 * j + 6 ≤ room_1.slots := ⟨by show 225 + j + 1 ≤ 601024; omega, by show 29232 + 6 * j + 6 ≤ 7293034; omega⟩
      by_cases ho : y.toInt < 0 ∨ 42 < y.toInt
      · refine lv_tableOut (tgt := 1606) hx hb dW_40 ho (by decide) ?_
        exact W.widen (k := 225 + j + 1) (n := 29232 + 6 * j + 6) (by omega) (by omega) (KON σ τ F H locs ls hI hl)
      · obtain ⟨v, hv, hv43⟩ : ∃ v : Nat, y.toInt = (v : Int) ∧ v < 43 := ⟨y.toInt.toNat, by omega, by omega⟩
        match v, hv, hv43 with
        | 0, hv, _ => exact lv_tableIn (tgt := 228) (off := 188) hx hb dW_40 (by rw [hv]; decide) (by rw [hv]; decide) (by rw [hv]; rfl) (by decide) (lc_0 hW hI hl hi hcs KON)
        | 1, hv, _ => exact lv_tableIn (tgt := 301) (off := 261) hx hb dW_40 (by rw [hv]; decide) (by rw [hv]; decide) (by rw [hv]; rfl) (by decide) (lc_1 hW hI hl hi hcs KON)
        | 2, hv, _ => exact lv_tableIn (tgt := 326) (off := 286) hx hb dW_40 (by rw [hv]; decide) (by rw [hv]; decide) (by rw [hv]; rfl) (by decide) (lc_2 hW hI hl hi hcs KON)
        | 3, hv, _ => exact lv_tableIn (tgt := 339) (off := 299) hx hb dW_40 (by rw [hv]; decide) (by rw [hv]; decide) (by rw [hv]; rfl) (by decide) (lc_3 hW hI hl hi hcs KON)
        | 4, hv, _ => exact lv_tableIn (tgt := 352) (off := 312) hx hb dW_40 (by rw [hv]; decide) (by rw [hv]; decide) (by rw [hv]; rfl) (by decide) (lc_4 hW hI hl hi hcs KON)
        | 5, hv, _ => exact lv_tableIn (tgt := 377) (off := 337) hx hb dW_40 (by rw [hv]; decide) (by rw [hv]; decide) (by rw [hv]; rfl) (by decide) (lc_5 hW hI hl hi hcs KON)
        | 6, hv, _ => exact lv_tableIn (tgt := 414) (off := 374) hx hb dW_40 (by rw [hv]; decide) (by rw [hv]; decide) (by rw [hv]; rfl) (by decide) (lc_6 hW hI hl hi hcs KON)
        | 7, hv, _ => exact lv_tableIn (tgt := 482) (off := 442) hx hb dW_40 (by rw [hv]; decide) (by rw [hv]; decide) (by rw [hv]; rfl) (by decide) (lc_7 hW hI hl hi hcs KON)
        | 8, hv, _ => exact lv_tableIn (tgt := 519) (off := 479) hx hb dW_40 (by rw [hv]; decide) (by rw [hv]; decide) (by rw [hv]; rfl) (by decide) (lc_8 hW hI hl hi hcs KON)
        | 9, hv, _ => exact lv_tableIn (tgt := 556) (off := 516) hx hb dW_40 (by rw [hv]; decide) (by rw [hv]; decide) (by rw [hv]; rfl) (by decide) (lc_9 hW hI hl hi hcs KON)
        | 10, hv, _ => exact lv_tableIn (tgt := 624) (off := 584) hx hb dW_40 (by rw [hv]; decide) (by rw [hv]; decide) (by rw [hv]; rfl) (by decide) (lc_10 hW hI hl hi hcs KON)
        | 11, hv, _ => exact lv_tableIn (tgt := 649) (off := 609) hx hb dW_40 (by rw [hv]; decide) (by rw [hv]; decide) (by rw [hv]; rfl) (by decide) (lc_11 hW hI hl hi hcs KON)
        | 12, hv, _ => exact lv_tableIn (tgt := 674) (off := 634) hx hb dW_40 (by rw [hv]; decide) (by rw [hv]; decide) (by rw [hv]; rfl) (by decide) (lc_12 hW hI hl hi hcs KON)
        | 13, hv, _ => exact lv_tableIn (tgt := 711) (off := 671) hx hb dW_40 (by rw [hv]; decide) (by rw [hv]; decide) (by rw [hv]; rfl) (by decide) (lc_13 hW hI hl hi hcs KON)
        | 14, hv, _ => exact lv_tableIn (tgt := 760) (off := 720) hx hb dW_40 (by rw [hv]; decide) (by rw [hv]; decide) (by rw [hv]; rfl) (by decide) (lc_14 hW hI hl hi hcs KON)
        | 15, hv, _ => exact lv_tableIn (tgt := 773) (off := 733) hx hb dW_40 (by rw [hv]; decide) (by rw [hv]; decide) (by rw [hv]; rfl) (by decide) (lc_15 hW hI hl hi hcs KON)
        | 16, hv, _ => exact lv_tableIn (tgt := 810) (off := 770) hx hb dW_40 (by rw [hv]; decide) (by rw [hv]; decide) (by rw [hv]; rfl) (by decide) (lc_16 hW hI hl hi hcs KON)
        | 17, hv, _ => exact lv_tableIn (tgt := 835) (off := 795) hx hb dW_40 (by rw [hv]; decide) (by rw [hv]; decide) (by rw [hv]; rfl) (by decide) (lc_17 hW hI hl hi hcs KON)
        | 18, hv, _ => exact lv_tableIn (tgt := 860) (off := 820) hx hb dW_40 (by rw [hv]; decide) (by rw [hv]; decide) (by rw [hv]; rfl) (by decide) (lc_18 hW hI hl hi hcs KON)
        | 19, hv, _ => exact lv_tableIn (tgt := 909) (off := 869) hx hb dW_40 (by rw [hv]; decide) (by rw [hv]; decide) (by rw [hv]; rfl) (by decide) (lc_19 hW hI hl hi hcs KON)
        | 20, hv, _ => exact lv_tableIn (tgt := 934) (off := 894) hx hb dW_40 (by rw [hv]; decide) (by rw [hv]; decide) (by rw [hv]; rfl) (by decide) (lc_20 hW hI hl hi hcs KON)
        | 21, hv, _ => exact lv_tableIn (tgt := 959) (off := 919) hx hb dW_40 (by rw [hv]; decide) (by rw [hv]; decide) (by rw [hv]; rfl) (by decide) (lc_21 hW hI hl hi hcs KON)
        | 22, hv, _ => exact lv_tableIn (tgt := 996) (off := 956) hx hb dW_40 (by rw [hv]; decide) (by rw [hv]; decide) (by rw [hv]; rfl) (by decide) (lc_22 hW hI hl hi hcs KON)
        | 23, hv, _ => exact lv_tableIn (tgt := 1022) (off := 982) hx hb dW_40 (by rw [hv]; decide) (by rw [hv]; decide) (by rw [hv]; rfl) (by decide) (lc_23 hW hI hl hi hcs KON)
        | 24, hv, _ => exact lv_tableIn (tgt := 1047) (off := 1007) hx hb dW_40 (by rw [hv]; decide) (by rw [hv]; decide) (by rw [hv]; rfl) (by decide) (lc_24 hW hI hl hi hcs KON)
        | 25, hv, _ => exact lv_tableIn (tgt := 1072) (off := 1032) hx hb dW_40 (by rw [hv]; decide) (by rw [hv]; decide) (by rw [hv]; rfl) (by decide) (lc_25 hW hI hl hi hcs KON)
        | 26, hv, _ => exact lv_tableIn (tgt := 1109) (off := 1069) hx hb dW_40 (by rw [hv]; decide) (by rw [hv]; decide) (by rw [hv]; rfl) (by decide) (lc_26 hW hI hl hi hcs KON)
        | 27, hv, _ => exact lv_tableIn (tgt := 1134) (off := 1094) hx hb dW_40 (by rw [hv]; decide) (by rw [hv]; decide) (by rw [hv]; rfl) (by decide) (lc_27 hW hI hl hi hcs KON)
        | 28, hv, _ => exact lv_tableIn (tgt := 1183) (off := 1143) hx hb dW_40 (by rw [hv]; decide) (by rw [hv]; decide) (by rw [hv]; rfl) (by decide) (lc_28 hW hI hl hi hcs KON)
        | 29, hv, _ => exact lv_tableIn (tgt := 1208) (off := 1168) hx hb dW_40 (by rw [hv]; decide) (by rw [hv]; decide) (by rw [hv]; rfl) (by decide) (lc_29 hW hI hl hi hcs KON)
        | 30, hv, _ => exact lv_tableIn (tgt := 1221) (off := 1181) hx hb dW_40 (by rw [hv]; decide) (by rw [hv]; decide) (by rw [hv]; rfl) (by decide) (lc_30 hW hI hl hi hcs KON)
        | 31, hv, _ => exact lv_tableIn (tgt := 1270) (off := 1230) hx hb dW_40 (by rw [hv]; decide) (by rw [hv]; decide) (by rw [hv]; rfl) (by decide) (lc_31 hW hI hl hi hcs KON)
        | 32, hv, _ => exact lv_tableIn (tgt := 1295) (off := 1255) hx hb dW_40 (by rw [hv]; decide) (by rw [hv]; decide) (by rw [hv]; rfl) (by decide) (lc_32 hW hI hl hi hcs KON)
        | 33, hv, _ => exact lv_tableIn (tgt := 1344) (off := 1304) hx hb dW_40 (by rw [hv]; decide) (by rw [hv]; decide) (by rw [hv]; rfl) (by decide) (lc_33 hW hI hl hi hcs KON)
        | 34, hv, _ => exact lv_tableIn (tgt := 1381) (off := 1341) hx hb dW_40 (by rw [hv]; decide) (by rw [hv]; decide) (by rw [hv]; rfl) (by decide) (lc_34 hW hI hl hi hcs KON)
        | 35, hv, _ => exact lv_tableIn (tgt := 1394) (off := 1354) hx hb dW_40 (by rw [hv]; decide) (by rw [hv]; decide) (by rw [hv]; rfl) (by decide) (lc_35 hW hI hl hi hcs KON)
        | 36, hv, _ => exact lv_tableIn (tgt := 1443) (off := 1403) hx hb dW_40 (by rw [hv]; decide) (by rw [hv]; decide) (by rw [hv]; rfl) (by decide) (lc_36 hW hI hl hi hcs KON)
        | 37, hv, _ => exact lv_tableIn (tgt := 1468) (off := 1428) hx hb dW_40 (by rw [hv]; decide) (by rw [hv]; decide) (by rw [hv]; rfl) (by decide) (lc_37 hW hI hl hi hcs KON)
        | 38, hv, _ => exact lv_tableIn (tgt := 1493) (off := 1453) hx hb dW_40 (by rw [hv]; decide) (by rw [hv]; decide) (by rw [hv]; rfl) (by decide) (lc_38 hW hI hl hi hcs KON)
        | 39, hv, _ => exact lv_tableIn (tgt := 1506) (off := 1466) hx hb dW_40 (by rw [hv]; decide) (by rw [hv]; decide) (by rw [hv]; rfl) (by decide) (lc_39 hW hI hl hi hcs KON)
        | 40, hv, _ => exact lv_tableIn (tgt := 1531) (off := 1491) hx hb dW_40 (by rw [hv]; decide) (by rw [hv]; decide) (by rw [hv]; rfl) (by decide) (lc_40 hW hI hl hi hcs KON)
        | 41, hv, _ => exact lv_tableIn (tgt := 1556) (off := 1516) hx hb dW_40 (by rw [hv]; decide) (by rw [hv]; decide) (by rw [hv]; rfl) (by decide) (lc_41 hW hI hl hi hcs KON)
        | 42, hv, _ => exact lv_tableIn (tgt := 1581) (off := 1541) hx hb dW_40 (by rw [hv]; decide) (by rw [hv]; decide) (by rw [hv]; rfl) (by decide) (lc_42 hW hI hl hi hcs KON)
        | v + 43, _, h => exact absurd h (by omega)
end
set_option maxHeartbeats 8000000 in
/-- from the entry: both objects are made, then the loop -/
theorem whole_start {p : Program} {e : Env} {s : State} {m : MethodId} {below : List Frame} {meth : Method} {c : Code} (l : Launch) (hflags : l.flags = flags0) {b L : Nat} {xs : Nat → Int32} (hL : L ≤ 3072) (C0 : lw_At p s m meth c b L xs) : W p l e room_1 s m #[Value.ref b] below meth c s.heap [] 0 0 (lw_Z below #[Value.ref b] s) (entryFrame m ([Value.ref b] : List Value).toArray 7) := by
  obtain ⟨hx, hb, hr, hml, hown, hts, hX, hbl, hlocks, hgv⟩ := id C0
  have hfl : l.stackTraces = false := by unfold Launch.stackTraces; rw [hflags]; decide +kernel
  have htz : ∀ w ∈ zTs, w.before #[Value.ref b] s = true := fun w hw => hts w (List.mem_filter.mp hw).1
  obtain ⟨D, ct, hK⟩ := st_K hts htz
  obtain ⟨kw, ss, hSt⟩ := st_zSt hts hgv
  have hTr := st_zTr hts hgv
  have hSk : zSk kw ss (fun z => s.heap.size ≤ z) s := ⟨hSt, st_kNs hts, st_AO hts⟩
  have hA : ∀ z : Nat, s.heap.size ≤ z → (fun z => s.heap.size ≤ z) z := fun _ h => h
  have hC : CallFix p m c code 7 s #[Value.ref b] zTs RL := ⟨hx, hb, hml, hown, htz⟩
  have hS : va_S (fun z => s.heap.size ≤ z) s.heap s.heap [] := va_S.rf
  have hP : va_P D vwCl [] s.heap := fun k q h => by simp at h
  have hD : va_D (fun z => s.heap.size ≤ z) [] := ⟨fun i j p q h => by simp at h, fun k q h => by simp at h⟩
  have hl := lv_entry ([.ref b]) (n := 7) (Nat.le_of_ble_eq_true rfl)
  rw [lg_entry_eq]
  generalize (lg_sl ([.ref b]) ++ List.replicate (7 - (lg_sl ([.ref b])).length) Slot.unset).toArray = ls at hl ⊢
  have hl : lv_has ls 7 [(0, .ref b)] := hl
  refine va_new (ci := 10) (fs := [.null, .null, .null, .null, .null, .null, .null, .null, .null, .null, .null, .null, .null, .null, .null, .int 0, .int 0, .int 0]) (C := RX10) (T := TX10) (N := 18) hx hb htz zcw10 tyX10 tyX10_ok hown (htz _ (tm1 20 rfl rfl)) (htz _ (tm1 21 rfl rfl)) (htz _ zin_10) hK hP hD hS hA rfl (by decide +kernel) (Nat.le_of_ble_eq_true rfl) (Nat.le_of_ble_eq_true rfl) dW_0 (fun q1 H hP hD hS => ?_)
  refine lv_dup hx hb dW_3 rfl ?_
  refine kCallM (ws := []) (cells := 0 + 1) (slots := 0 + 18) (ci := 10) (k := 0) (n := 0) (q := q1) (as := []) (rest := [.ref q1]) hC hK hSk hA kc_10 hP hD hS zmoK10 rfl rfl rfl rfl (tm1 22 rfl rfl) (tm1 23 rfl rfl) (by decide +kernel) rfl hl.1 ⟨Nat.le_of_ble_eq_true rfl, Nat.le_of_ble_eq_true rfl⟩ (Nat.le_of_ble_eq_true rfl) ⟨Nat.le_of_ble_eq_true rfl, Nat.le_of_ble_eq_true rfl⟩ dW_4 rfl (fun ad H locs had hP hD hS => ?_)
  refine lv_astore_n (lv' := [(1, .ref q1), (0, .ref b)]) hx hb dW_7 rfl hl (by decide) rfl (fun ls hl => ?_)
  rw [List.nil_append] at hP hD
  refine va_new (ci := 11) (fs := [.int 0, .null, .int 0, .int 0, .int 0, .int 0, .null, .null, .null, .null, .null, .int 0, .int 0, .int 0, .int 0, .int 0, .int 0, .long 0, .int 0, .int 0, .null, .null, .null, .int 0, .int 0, .null, .null, .int 0, .null, .int 0, .int 0, .int 0, .int 0, .int 0, .null, .int 0, .null, .int 0, .int 0, .int 0, .int 0, .int 0, .null, .null, .null, .null]) (C := RX11) (T := TX11) (N := 46) hx hb htz zcw11 tyX11 tyX11_ok hown (htz _ (tm6 34 rfl rfl)) (htz _ (tm6 28 rfl rfl)) (htz _ zin_11) hK hP hD hS hA rfl (by decide +kernel) (Nat.le_of_ble_eq_true rfl) (Nat.le_of_ble_eq_true rfl) dW_8 (fun q2 H hP hD hS => ?_)
  refine lv_dup hx hb dW_11 rfl ?_
  refine kCallM (ws := zw ad ct zBG zPR) (cells := 0 + 1 + 204 + 1) (slots := 0 + 18 + 5748 + 46) (ci := 11) (k := 0) (n := 0) (q := q2) (as := []) (rest := [.ref q2]) hC hK hSk hA kc_11 hP hD hS zmoK11 rfl rfl rfl rfl (tm6 35 rfl rfl) (tm6 36 rfl rfl) (by decide +kernel) rfl hl.1 ⟨Nat.le_of_ble_eq_true rfl, Nat.le_of_ble_eq_true rfl⟩ (Nat.le_of_ble_eq_true rfl) ⟨Nat.le_of_ble_eq_true rfl, Nat.le_of_ble_eq_true rfl⟩ dW_12 rfl (fun am H locs ham hP hD hS => ?_)
  refine lv_astore_n (lv' := [(2, .ref q2), (1, .ref q1), (0, .ref b)]) hx hb dW_15 rfl hl (by decide) rfl (fun ls hl => ?_)
  refine lv_iconst (v := 1) hx hb dW_16 (by decide) ?_
  refine va_newa (atype := .long) (ty := .long) (R := room_1) (a0 := (1, .inr (.inl (fun _ => Int64.ofInt 0)))) (N' := 1) hx hb (htz _ (tm1 113 rfl rfl)) rfl hK hP hD hS hA (vpL 1 .long rfl) (by decide +kernel) (by decide +kernel) (Nat.le_of_ble_eq_true rfl) (Nat.le_of_ble_eq_true rfl) (Nat.le_of_ble_eq_true rfl) dW_17 (fun q cA H hK1 hP hD hS => ?_)
  have e1 : cA = ct 101 := va_RA_inj (hK1.2 (ztys ct).length (cA, .long) (by simp)).2 (hK.2 1 (ct 101, .long) rfl).2
  subst e1
  refine lv_astore_n (lv' := [(3, .ref q), (2, .ref q2), (1, .ref q1), (0, .ref b)]) hx hb dW_19 rfl hl (by decide) rfl (fun ls hl => ?_)
  refine lv_iconst (v := 0) hx hb dW_20 (by decide) ?_
  refine lv_istore (lv' := [(4, .int 0), (3, .ref q), (2, .ref q2), (1, .ref q1), (0, .ref b)]) hx hb dW_21 hl (by decide) rfl (fun ls hl => ?_)
  obtain ⟨hP1, hPq⟩ := vaP_app hP
  obtain ⟨hPx, hPm⟩ := vaP_app hP1
  obtain ⟨hD1, hDq, hd1⟩ := vaD_app hD
  obtain ⟨hDx, hDm, hd2⟩ := vaD_app hD1
  have hF : zFx s ad am ct q := by
    refine ⟨hDx, hDm, hDq.2 0 _ rfl, fun x hx h => ?_, fun x hx h => ?_, fun x hx y hy h => ?_⟩
    · obtain ⟨y, hy, e⟩ := zw_mem (ad := ad) (ct := ct) (σ := zBG) hx
      exact hd1 y (List.mem_append_left _ hy) _ (List.mem_singleton.mpr rfl) (e.trans h)
    · obtain ⟨y, hy, e⟩ := zw_mem (ad := am) (ct := ct) (σ := zMG) hx
      exact hd1 y (List.mem_append_right _ hy) _ (List.mem_singleton.mpr rfl) (e.trans h)
    · obtain ⟨x', hx', e⟩ := zw_mem (ad := ad) (ct := ct) (σ := zBG) hx
      obtain ⟨y', hy', e'⟩ := zw_mem (ad := am) (ct := ct) (σ := zMG) hy
      exact hd2 x' hx' y' hy' (by rw [e, e']; exact h)
  have hlW : zLw p l s m #[Value.ref b] c D ad am ct kw ss b L xs q := ⟨hC, hK, hSt, hTr, hX, hbl, hL, hF, hfl⟩
  have hI : zIv s D ad am ct q zBG zMG (fun _ => Int64.ofInt 0) H locs := ⟨hPx, hPm, hPq 0 _ rfl, okH_BG, okH_MG, rel_0, hS⟩
  have hl2 := lv_sub hl [4, 3, 2, 1, 0] rfl
  refine W.widen (k := 225 + 0) (n := 29232 + 6 * 0) (by omega) (by omega) ?_
  refine law_loop hlW hr hlocks (L + 1) 0 zBG zMG _ H locs ls hI ?_ (by omega) (by omega)
  rw [had, ham]
  exact hl2
end ZS2
