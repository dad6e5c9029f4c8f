/-! THE LAW'S LOOP: what holds at its head; a case of it -/
section ZCL
variable {p : Program} {l : Launch} {e : Env} {R : Room} {s : State} {m : MethodId} {args : Array Value} {below : List Frame} {meth : Method} {c : Code} {Q : State → Prop} {D : va_G} {A : Nat → Prop} {nL : Nat} {cc : ByteArray} {own : String} {ad : Nat → Nat} {ct : Nat → ClassId} {kw ss : Nat} {σ σ2 : zH} {P : zP}
variable {H : Heap} {locs : List Loc} {cells slots pc : Nat} {ls : Array Slot} {rest : List Value}
theorem zCallL {cm cr n idx c0 k0 : Nat} {M : zMt} (hM : zmt cm = M) {t : List zV} {x : Int} {st0 : List Value} (hS0 : CallFix p m c cc nL s args zTs own) (hK : va_K D vwCl (ztys ct) s) (hSt : zSt kw ss A s) (hA : ∀ q : Nat, s.heap.size ≤ q → A q) (hP : va_P D vwCl (zw ad ct σ P) H) (hD : va_D A (zw ad ct σ P)) (hS : va_S A s.heap H locs) (hap : zapart P) (hcl : zcl P) (hH : okH P σ) (hobj : (k0, c0, 0) ∈ P) (hc0 : c0 < 100) (ht : okS P t) (hev : zsem cm 0 cr (.inr (.inr (.inr (c0, 0, k0))) :: t) [] σ = some (σ2, x)) (hok : zMok M) (hq1 : (vwCl[c0]?).map (fun q => q.1) = some M.1.cls) (hlink : Cond.methodLink own idx M.1 ∈ zTs) (hia : Cond.instanceMethod M.1 ∈ zTs) (hse : Cond.selects M.1.cls M.1 M.1 ∈ zTs) (hnp : znp M.1 = some n) (hmr : M.2.2.2.1 = 2) (hn : t.length = n) (hl : ls.size = nL) (hst : st0 = (t.map (ztr ad kw ss)).reverse ++ .ref (ad k0) :: rest) (hroom : (zroom cr).frames + 1 ≤ R.frames ∧ 8 + (M.2.2.1 + 11) + (zroom cr).locals ≤ R.locals) (hwd : (rest.map fun v => v.category).sum ≤ 8) (hf : cells ≤ R.cells ∧ slots ≤ R.slots) (hdg : decode cc pc = .ok (.invokevirtual idx, 3))
    (kk : ∀ (H1 : Heap) (locs1 : List Loc), va_P D vwCl (zw ad ct σ2 P) H1 → va_D A (zw ad ct σ2 P) → okH P σ2 → H.size ≤ H1.size → (∀ q : Nat, q < H.size → ¬ zA ad P H.size q → H1[q]? = H[q]?) → va_S A s.heap H1 locs1 → W p l e R s m args below meth c H1 locs1 cells slots Q (F0 m (pc + 3) ls (.long (Int64.ofInt x) :: rest))) : W p l e R s m args below meth c H locs cells slots Q (F0 m pc ls st0) := by
  subst hM
  have hsub := zA_of hD hA hS
  have hr := zRunV (l := l) (below := below) (e := e) (R := R) (meth := meth) (slots := slots) (cells := cells) hS0 hK hSt hA hP hD hS hap hcl hH hobj hc0 ht hev hok hq1 hlink hia hse hnp hn hl hst hroom hwd hf hdg
  rw [hmr] at hr
  exact va_calll (a := (Value.ref (ad k0) :: t.map (ztr ad kw ss)).toArray) hr hS (fun q _ h => hsub q h) hsub (fun r u t H1 locs1 ht hvm hw hB hz1 hk1 hS1 => by
    obtain ⟨rfl, hv, hh⟩ := hw
    exact kk H1 locs1 (by rw [← ht]; exact hB) (zwD_cong hD) hh hz1 hk1 hS1)
end ZCL
section ZLW
set_option maxRecDepth 100000 in
theorem zapM : zapart zPMod := zap_of (by decide +kernel)
set_option maxRecDepth 100000 in
theorem zclM : zcl zPMod := zcl_of (by decide +kernel)
theorem zkw_r : ∀ i, i < 26 → r64 (zkw i) := by
  unfold r64
  decide +kernel
theorem okH_MG : okH zPMod zMG := by
  intro e he i
  have hne : ∀ x ∈ zPMod, x.1 = 11 → x.2.1 = 101 := by decide +kernel
  by_cases h : e.1 = 11
  · rw [hne e he h, h]
    show r64 (if i < 26 then zkw i else 0)
    by_cases hi : i < 26
    · rw [if_pos hi]
      exact zkw_r i hi
    · rw [if_neg hi]
      exact ⟨by decide, by decide⟩
  · have h2 : zMG e.1 i = 0 := if_neg h
    rw [h2]
    exact zrg_zero _ _
theorem rel_0 : Rel zBG zMG := rel_BG (fun i _ => rfl) (fun j _ => rfl) rfl rfl ⟨fun i hi => by show (if i < 26 then zkw i else 0) = zkw i; exact if_pos hi, rfl⟩
-- rows of the law
def dArgs (b : ByteArray) : Nat → Nat → Nat → Bool
  | _, _, 0 => true
  | pc, k, n + 1 => decide (decode b pc = .ok (.aload_n 0, 1)) && (decide (decode b (pc + 1) = .ok (.iload 4, 2)) && (decide (decode b (pc + 3) = .ok (.iconst (k : Int), 1)) && (decide (decode b (pc + 4) = .ok (.iadd, 1)) && (decide (decode b (pc + 5) = .ok (.iaload, 1)) && dArgs b (pc + 6) (k + 1) n))))
def dCase (b : ByteArray) (pc n ix1 ix2 : Nat) : Bool :=
  decide (decode b pc = .ok (.aload_n 1, 1)) && (dArgs b (pc + 1) 1 n && (decide (decode b (pc + 1 + 6 * n) = .ok (.invokevirtual ix1, 3)) && (decide (decode b (pc + 1 + 6 * n + 3) = .ok (.aload_n 2, 1)) && (dArgs b (pc + 1 + 6 * n + 3 + 1) 1 n && (decide (decode b (pc + 1 + 6 * n + 3 + 1 + 6 * n) = .ok (.invokevirtual ix2, 3)) && decide (decode b (pc + 1 + 6 * n + 3 + 1 + 6 * n + 3) = .ok (.if_icmp .eq (1606 - ((pc + 1 + 6 * n + 3 + 1 + 6 * n + 3 : Nat) : Int)), 3)))))))
def dCaseL (b : ByteArray) (pc n ix1 ix2 : Nat) : Bool :=
  decide (decode b pc = .ok (.aload_n 1, 1)) && (dArgs b (pc + 1) 1 n && (decide (decode b (pc + 1 + 6 * n) = .ok (.invokevirtual ix1, 3)) && (decide (decode b (pc + 1 + 6 * n + 3) = .ok (.aload_n 2, 1)) && (dArgs b (pc + 1 + 6 * n + 3 + 1) 1 n && (decide (decode b (pc + 1 + 6 * n + 3 + 1 + 6 * n) = .ok (.invokevirtual ix2, 3)) && (decide (decode b (pc + 1 + 6 * n + 3 + 1 + 6 * n + 3) = .ok (.lcmp, 1)) && decide (decode b (pc + 1 + 6 * n + 3 + 1 + 6 * n + 3 + 1) = .ok (.ifCond .eq (1606 - ((pc + 1 + 6 * n + 3 + 1 + 6 * n + 3 + 1 : Nat) : Int)), 3))))))))
def dCaseT (b : ByteArray) (pc ixL ixM : Nat) : Bool :=
  decide (decode b pc = .ok (.aload_n 1, 1)) && (dArgs b (pc + 1) 1 2 && (decide (decode b (pc + 13) = .ok (.aload_n 3, 1)) && (decide (decode b (pc + 14) = .ok (.invokestatic ixL, 3)) && (decide (decode b (pc + 17) = .ok (.istore 5, 2)) && (decide (decode b (pc + 19) = .ok (.aload_n 2, 1)) && (dArgs b (pc + 20) 1 2 && (decide (decode b (pc + 32) = .ok (.invokevirtual ixM, 3)) && (decide (decode b (pc + 35) = .ok (.istore 6, 2)) && (decide (decode b (pc + 37) = .ok (.aload_n 2, 1)) && (decide (decode b (pc + 38) = .ok (.invokevirtual 56, 3)) && (decide (decode b (pc + 41) = .ok (.iload 5, 2)) && (decide (decode b (pc + 43) = .ok (.if_icmp .eq 5, 3)) && (decide (decode b (pc + 48) = .ok (.iload 5, 2)) && (decide (decode b (pc + 50) = .ok (.ifCond .ne 15, 3)) && (decide (decode b (pc + 53) = .ok (.aload_n 3, 1)) && (decide (decode b (pc + 54) = .ok (.iconst 0, 1)) && (decide (decode b (pc + 55) = .ok (.laload, 1)) && (decide (decode b (pc + 56) = .ok (.iload 6, 2)) && (decide (decode b (pc + 58) = .ok (.i2l, 1)) && (decide (decode b (pc + 59) = .ok (.lcmp, 1)) && (decide (decode b (pc + 60) = .ok (.ifCond .eq 5, 3)) && decide (decode b (pc + 65) = .ok (.goto (1606 - ((pc + 65 : Nat) : Int)), 3)))))))))))))))))))))))
variable {p : Program} {l : Launch} {e : Env} {R : Room} {s : State} {m : MethodId} {args : Array Value} {below : List Frame} {meth : Method} {c : Code} {Q : State → Prop} {D : va_G} {ad am : Nat → Nat} {ct : Nat → ClassId} {kw ss : Nat} {σ τ : zH}
variable {H : Heap} {locs : List Loc} {cells slots pc : Nat} {ls : Array Slot} {b L q i : Nat} {xs : Nat → Int32} {F : Nat → Int64}
set_option maxRecDepth 100000 in
/-- a number of numbers of the script, on the stack -/
theorem zArgs (hS0 : CallFix p m c code 7 s args zTs RL) (hX : va_X b L xs s s.heap) (hbl : b < s.heap.size) (hL : L ≤ 3072) (hS : va_S (fun z => s.heap.size ≤ z) s.heap H locs) (h0 : ls[0]? = some (.val (.ref b))) (h4 : ls[4]? = some (.val (.int (Int32.ofInt (i : Int))))) : ∀ (n k pc : Nat) (rest : List Value), dArgs code pc k n = true → i + k + n ≤ L → W p l e R s m args below meth c H locs cells slots Q (F0 m (pc + 6 * n) ls (((List.range' k n).map (fun j => Value.int (Int32.ofInt (xs (i + j)).toInt))).reverse ++ rest)) → W p l e R s m args below meth c H locs cells slots Q (F0 m pc ls rest) := by
  intro n
  induction n with
  | zero =>
    intro k pc rest _ _ hw
    exact hw
  | succ n ih =>
    intro k pc rest hd hi hw
    obtain ⟨hx, hb, hml, hown, hts⟩ := id hS0
    simp only [dArgs, Bool.and_eq_true, decide_eq_true_eq] at hd
    obtain ⟨d0, d1, d2, d3, d4, hd⟩ := hd
    refine lv_aload_n hx hb d0 rfl h0 ?_
    refine lv_iload hx hb d1 h4 ?_
    refine lv_iconst (v := Int32.ofInt (k : Int)) hx hb d2 rfl ?_
    refine lv_iadd hx hb d3 ?_
    have he : Int32.ofInt (i : Int) + Int32.ofInt (k : Int) = Int32.ofInt ((i + k : Nat) : Int) := by
      rw [← Int32.ofInt_add]
      rfl
    rw [he]
    obtain ⟨h1, h2⟩ := vp_in_of_zin (i := ((i + k : Nat) : Int)) (n := L) ⟨by omega, by omega⟩ (zin_iff.mpr ⟨by omega, by omega⟩)
    refine va_sld hx hb hX hbl (Nat.not_le.mpr hbl) hS h1 d4 ?_
    rw [h2, Int.toNat_natCast]
    have e1 : pc + 6 * (n + 1) = pc + 6 + 6 * n := by omega
    rw [e1, List.range'_succ, List.map_cons, List.reverse_cons, List.append_assoc, Int32.ofInt_toInt] at hw
    exact ih (k + 1) (pc + 6) _ hd (by omega) hw
theorem keepP2 {ws : va_W} {A1 : Nat → Prop} {H1 : Heap} (hP : va_P D vwCl ws H) (hk : ∀ q : Nat, q < H.size → ¬ A1 q → H1[q]? = H[q]?) (hn : ∀ x ∈ ws, x.1 < H.size → ¬ A1 x.1) : va_P D vwCl ws H1 := fun k q hq => (hP k q hq).kept (hk q.1 (hP k q hq).lt (hn q (List.mem_of_getElem? hq) (hP k q hq).lt))
/-- the two plans and the row of one long, apart -/
def zFx (s : State) (ad am : Nat → Nat) (ct : Nat → ClassId) (q : Nat) : Prop := va_D (fun z => s.heap.size ≤ z) (zw ad ct zBG zPR) ∧ va_D (fun z => s.heap.size ≤ z) (zw am ct zMG zPMod) ∧ s.heap.size ≤ q ∧ (∀ x ∈ zPR, ad x.1 ≠ q) ∧ (∀ x ∈ zPMod, am x.1 ≠ q) ∧ ∀ x ∈ zPR, ∀ y ∈ zPMod, ad x.1 ≠ am y.1
/-- what holds all through the law -/
def zLw (p : Program) (l : Launch) (s : State) (m : MethodId) (args : Array Value) (c : Code) (D : va_G) (ad am : Nat → Nat) (ct : Nat → ClassId) (kw ss b L : Nat) (xs : Nat → Int32) (q : Nat) : Prop := CallFix p m c code 7 s args zTs RL ∧ va_K D vwCl (ztys ct) s ∧ zSt kw ss (fun z => s.heap.size ≤ z) s ∧ zTr (fun z => s.heap.size ≤ z) s ∧ va_X b L xs s s.heap ∧ b < s.heap.size ∧ L ≤ 3072 ∧ zFx s ad am ct q ∧ l.stackTraces = false
/-- what the cells are between two calls -/
def zIv (s : State) (D : va_G) (ad am : Nat → Nat) (ct : Nat → ClassId) (q : Nat) (σ τ : zH) (F : Nat → Int64) (H : Heap) (locs : List Loc) : Prop := va_P D vwCl (zw ad ct σ zPR) H ∧ va_P D vwCl (zw am ct τ zPMod) H ∧ va_at D vwCl (q, .inl (ct 101, 1, .inr (.inl F))) H ∧ okH zPR σ ∧ okH zPMod τ ∧ Rel σ τ ∧ va_S (fun z => s.heap.size ≤ z) s.heap H locs
theorem nzA {am : Nat → Nat} {P P' : zP} {x : Nat × va_E} {n : Nat} (h : ∀ e ∈ P, ∀ y ∈ P', ad e.1 ≠ am y.1) (hx : x ∈ zw am ct τ P') (hlt : x.1 < n) : ¬ zA ad P n x.1 := by
  obtain ⟨y, hy, e⟩ := zw_ad hx
  rintro (⟨z, hz, h2⟩ | h2)
  · exact h z hz y hy (by rw [← h2, e])
  · exact absurd hlt (Nat.not_lt.mpr h2)
theorem nzQ {P : zP} {n : Nat} (h : ∀ e ∈ P, ad e.1 ≠ q) (hlt : q < n) : ¬ zA ad P n q := by
  rintro (⟨z, hz, h2⟩ | h2)
  · exact h z hz h2.symm
  · exact absurd hlt (Nat.not_lt.mpr h2)
/-- what a method's call is held by -/
def zLkV (R : Room) (idx n cr c0 : Nat) (M : zMt) : Prop := zMok M ∧ (vwCl[c0]?).map (fun q => q.1) = some M.1.cls ∧ Cond.methodLink RL idx M.1 ∈ zTs ∧ Cond.instanceMethod M.1 ∈ zTs ∧ Cond.selects M.1.cls M.1 M.1 ∈ zTs ∧ znp M.1 = some n ∧ (M.2.2.2.1 = 1 ∨ M.2.2.2.1 = 3) ∧ (zroom cr).frames + 1 ≤ R.frames ∧ 8 + (M.2.2.1 + 11) + (zroom cr).locals ≤ R.locals
/-- a call of the class beside one of the reference: their answers are alike -/
theorem zCase {n ix1 ix2 cmR crR cmM crM : Nat} {MR MM : zMt} (hMR : zmt cmR = MR) (hMM : zmt cmM = MM) (hd : dCase code pc n ix1 ix2 = true) (hn5 : n ≤ 5) (hkR : zLkV R ix1 n crR 10 MR) (hkM : zLkV R ix2 n crM 11 MM)
    (hW : zLw p l s m args c D ad am ct kw ss b L xs q) (hI : zIv s D ad am ct q σ τ F H locs) (hl : lv_has ls 7 [(0, .ref b), (1, .ref (ad 0)), (2, .ref (am 0)), (3, .ref q), (4, .int (Int32.ofInt (i : Int)))]) (hi : i + 6 ≤ L) (hcs : cells ≤ R.cells ∧ slots ≤ R.slots)
    (hsame : ∃ σ' τ' v, zsem cmR 0 crR (.inr (.inr (.inr (10, 0, 0))) :: ((List.range' 1 n).map (fun j => (.inl (xs (i + j)).toInt : zV)))) [] σ = some (σ', v) ∧ zsem cmM 0 crM (.inr (.inr (.inr (11, 0, 0))) :: ((List.range' 1 n).map (fun j => (.inl (xs (i + j)).toInt : zV)))) [] τ = some (τ', v) ∧ Rel σ' τ')
    (kk : ∀ (σ' τ' : zH) (H' : Heap) (locs' : List Loc), zIv s D ad am ct q σ' τ' F H' locs' → W p l e R s m args below meth c H' locs' cells slots Q (F0 m 1606 ls [])) : W p l e R s m args below meth c H locs cells slots Q (F0 m pc ls []) := by
  obtain ⟨hS0, hK, hSt, hTr, hX, hbl, hL, ⟨hDx, hDm, hq0, hxq, hmq, hxm⟩, hfl⟩ := hW
  obtain ⟨hPx, hPm, hPq, hHx, hHm, hR, hS⟩ := hI
  obtain ⟨σ', τ', v, ev1, ev2, hR'⟩ := hsame
  have hx := hS0.1
  have hb := hS0.2.1
  simp only [dCase, Bool.and_eq_true, decide_eq_true_eq] at hd
  obtain ⟨d0, d1, d2, d3, d4, d5, d6⟩ := hd
  obtain ⟨r1, r2, r3, r4, r5, r6, r7, r8⟩ := hkR
  obtain ⟨t1, t2, t3, t4, t5, t6, t7, t8⟩ := hkM
  have hA : ∀ z : Nat, s.heap.size ≤ z → (fun z => s.heap.size ≤ z) z := fun _ h => h
  have okt : ∀ P : zP, okS P ((List.range' 1 n).map (fun j => (.inl (xs (i + j)).toInt : zV))) := fun P v hv => by
    obtain ⟨j, -, rfl⟩ := List.mem_map.mp hv
    exact r32_to _
  have hlen : ((List.range' 1 n).map (fun j => (.inl (xs (i + j)).toInt : zV))).length = n := by rw [List.length_map, List.length_range']
  refine lv_aload_n hx hb d0 rfl (lv_at hl 1 rfl) ?_
  refine zArgs hS0 hX hbl hL hS (lv_at hl 0 rfl) (lv_at hl 4 rfl) n 1 (pc + 1) _ d1 (by omega) ?_
  refine zCallI (cr := crR) (c0 := 10) (k0 := 0) (σ2 := σ') (x := v) (P := zPR) (n := n) (rest := []) hMR hS0 hK hSt hA hPx (zwD_cong hDx) hS zapR zclR hHx List.mem_cons_self (by decide) (okt _) ev1 r1 r2 r3 r4 r5 r6 r7 hlen hl.1 (by rw [List.map_map]; rfl) r8 (by decide) hcs d2 (fun H1 locs1 hP1 hD1 hH1 hz1 hk1 hS1 => ?_)
  have hPm1 := keepP2 hPm hk1 (fun x hx hlt => nzA hxm hx hlt)
  have hPq1 := hPq.kept (hk1 q hPq.lt (nzQ hxq hPq.lt))
  refine lv_aload_n hx hb d3 rfl (lv_at hl 2 rfl) ?_
  refine zArgs hS0 hX hbl hL hS1 (lv_at hl 0 rfl) (lv_at hl 4 rfl) n 1 (pc + 1 + 6 * n + 3 + 1) _ d4 (by omega) ?_
  refine zCallI (ad := am) (cr := crM) (c0 := 11) (k0 := 0) (σ2 := τ') (x := v) (P := zPMod) (n := n) (rest := [.int (Int32.ofInt v)]) hMM hS0 hK hSt hA hPm1 (zwD_cong hDm) hS1 zapM zclM hHm List.mem_cons_self (by decide) (okt _) ev2 t1 t2 t3 t4 t5 t6 t7 hlen hl.1 (by rw [List.map_map]; rfl) t8 (Nat.le_of_ble_eq_true rfl) hcs d5 (fun H2 locs2 hP2 hD2 hH2 hz2 hk2 hS2 => ?_)
  have hPx2 := keepP2 hP1 hk2 (fun x hx hlt => nzA (fun e he y hy h => hxm y hy e he h.symm) hx hlt)
  have hPq2 := hPq1.kept (hk2 q hPq1.lt (nzQ hmq hPq1.lt))
  refine lv_icmp_eq (tgt := 1606) hx hb d6 (by omega) (fun _ => kk σ' τ' H2 locs2 ⟨hPx2, hP2, hPq2, hH1, hH2, hR', hS2⟩) (fun hc => absurd rfl hc)
theorem lg_cmp_self (x : Int64) : lg_cmp x x = 0 := by
  unfold lg_cmp
  rw [if_neg (by simp), if_pos rfl]
def zLkL (R : Room) (idx n cr c0 : Nat) (M : zMt) : Prop := zMok M ∧ (vwCl[c0]?).map (fun q => q.1) = some M.1.cls ∧ Cond.methodLink RL idx M.1 ∈ zTs ∧ Cond.instanceMethod M.1 ∈ zTs ∧ Cond.selects M.1.cls M.1 M.1 ∈ zTs ∧ znp M.1 = some n ∧ M.2.2.2.1 = 2 ∧ (zroom cr).frames + 1 ≤ R.frames ∧ 8 + (M.2.2.1 + 11) + (zroom cr).locals ≤ R.locals
/-- a call of the class beside one of the reference: their answers are alike, longs -/
theorem zCaseL {n ix1 ix2 cmR crR cmM crM : Nat} {MR MM : zMt} (hMR : zmt cmR = MR) (hMM : zmt cmM = MM) (hd : dCaseL code pc n ix1 ix2 = true) (hn5 : n ≤ 5) (hkR : zLkL R ix1 n crR 10 MR) (hkM : zLkL R ix2 n crM 11 MM)
    (hW : zLw p l s m args c D ad am ct kw ss b L xs q) (hI : zIv s D ad am ct q σ τ F H locs) (hl : lv_has ls 7 [(0, .ref b), (1, .ref (ad 0)), (2, .ref (am 0)), (3, .ref q), (4, .int (Int32.ofInt (i : Int)))]) (hi : i + 6 ≤ L) (hcs : cells ≤ R.cells ∧ slots ≤ R.slots)
    (hsame : ∃ σ' τ' v, zsem cmR 0 crR (.inr (.inr (.inr (10, 0, 0))) :: ((List.range' 1 n).map (fun j => (.inl (xs (i + j)).toInt : zV)))) [] σ = some (σ', v) ∧ zsem cmM 0 crM (.inr (.inr (.inr (11, 0, 0))) :: ((List.range' 1 n).map (fun j => (.inl (xs (i + j)).toInt : zV)))) [] τ = some (τ', v) ∧ Rel σ' τ')
    (kk : ∀ (σ' τ' : zH) (H' : Heap) (locs' : List Loc), zIv s D ad am ct q σ' τ' F H' locs' → W p l e R s m args below meth c H' locs' cells slots Q (F0 m 1606 ls [])) : W p l e R s m args below meth c H locs cells slots Q (F0 m pc ls []) := by
  obtain ⟨hS0, hK, hSt, hTr, hX, hbl, hL, ⟨hDx, hDm, hq0, hxq, hmq, hxm⟩, hfl⟩ := hW
  obtain ⟨hPx, hPm, hPq, hHx, hHm, hR, hS⟩ := hI
  obtain ⟨σ', τ', v, ev1, ev2, hR'⟩ := hsame
  have hx := hS0.1
  have hb := hS0.2.1
  simp only [dCaseL, Bool.and_eq_true, decide_eq_true_eq] at hd
  obtain ⟨d0, d1, d2, d3, d4, d5, d6, d7⟩ := hd
  obtain ⟨r1, r2, r3, r4, r5, r6, r7, r8⟩ := hkR
  obtain ⟨t1, t2, t3, t4, t5, t6, t7, t8⟩ := hkM
  have hA : ∀ z : Nat, s.heap.size ≤ z → (fun z => s.heap.size ≤ z) z := fun _ h => h
  have okt : ∀ P : zP, okS P ((List.range' 1 n).map (fun j => (.inl (xs (i + j)).toInt : zV))) := fun P v hv => by
    obtain ⟨j, -, rfl⟩ := List.mem_map.mp hv
    exact r32_to _
  have hlen : ((List.range' 1 n).map (fun j => (.inl (xs (i + j)).toInt : zV))).length = n := by rw [List.length_map, List.length_range']
  refine lv_aload_n hx hb d0 rfl (lv_at hl 1 rfl) ?_
  refine zArgs hS0 hX hbl hL hS (lv_at hl 0 rfl) (lv_at hl 4 rfl) n 1 (pc + 1) _ d1 (by omega) ?_
  refine zCallL (cr := crR) (c0 := 10) (k0 := 0) (σ2 := σ') (x := v) (P := zPR) (n := n) (rest := []) hMR hS0 hK hSt hA hPx (zwD_cong hDx) hS zapR zclR hHx List.mem_cons_self (by decide) (okt _) ev1 r1 r2 r3 r4 r5 r6 r7 hlen hl.1 (by rw [List.map_map]; rfl) r8 (by decide) hcs d2 (fun H1 locs1 hP1 hD1 hH1 hz1 hk1 hS1 => ?_)
  have hPm1 := keepP2 hPm hk1 (fun x hx hlt => nzA hxm hx hlt)
  have hPq1 := hPq.kept (hk1 q hPq.lt (nzQ hxq hPq.lt))
  refine lv_aload_n hx hb d3 rfl (lv_at hl 2 rfl) ?_
  refine zArgs hS0 hX hbl hL hS1 (lv_at hl 0 rfl) (lv_at hl 4 rfl) n 1 (pc + 1 + 6 * n + 3 + 1) _ d4 (by omega) ?_
  refine zCallL (ad := am) (cr := crM) (c0 := 11) (k0 := 0) (σ2 := τ') (x := v) (P := zPMod) (n := n) (rest := [.long (Int64.ofInt v)]) hMM hS0 hK hSt hA hPm1 (zwD_cong hDm) hS1 zapM zclM hHm List.mem_cons_self (by decide) (okt _) ev2 t1 t2 t3 t4 t5 t6 t7 hlen hl.1 (by rw [List.map_map]; rfl) t8 (Nat.le_of_ble_eq_true rfl) hcs d5 (fun H2 locs2 hP2 hD2 hH2 hz2 hk2 hS2 => ?_)
  have hPx2 := keepP2 hP1 hk2 (fun x hx hlt => nzA (fun e he y hy h => hxm y hy e he h.symm) hx hlt)
  have hPq2 := hPq1.kept (hk2 q hPq1.lt (nzQ hmq hPq1.lt))
  refine W.lcmp hx hb d6 ?_
  rw [lg_cmp_self]
  exact lv_if_eq (tgt := 1606) hx hb d7 (by omega) (fun _ => kk σ' τ' H2 locs2 ⟨hPx2, hP2, hPq2, hH1, hH2, hR', hS2⟩) (fun hc => absurd rfl hc)
/-- a call that may throw -/
theorem zCaseT {ixL ixM cmM crM : Nat} {MM : zMt} {yl : MethodName} {bl : ByteArray} (hMM : zmt cmM = MM) (hd : dCaseT code pc ixL ixM = true) (hkM : zLkV R ixM 2 crM 11 MM) (hkT : zLkV R 56 0 0 11 (yX11_thrown, cX11_thrown, 1, 1, RX11))
    (hyl : yl.cls = RL ∧ znp yl = some 4) (hlk : GoodIn zTs (va_wsS RL ixL yl (.codeWith yl bl 5 (some .int) [(0, 10, 13, 13)] :: zTs))) (hR9 : 9 ≤ R.frames ∧ 324 ≤ R.locals)
    (hW : zLw p l s m args c D ad am ct kw ss b L xs q) (hI : zIv s D ad am ct q σ τ F H locs) (hl : lv_has ls 7 [(0, .ref b), (1, .ref (ad 0)), (2, .ref (am 0)), (3, .ref q), (4, .int (Int32.ofInt (i : Int)))]) (hi : i + 6 ≤ L) (hcs : cells + 1 ≤ R.cells ∧ slots + 6 ≤ R.slots)
    (hres : ∃ (kr v : Int) (F' : Nat → Int64) (mc ms : Nat), (kr = 0 ∨ kr = 1) ∧ mc ≤ 1 ∧ ms ≤ 6 ∧ (∀ sz, vx_Met l yl (.codeWith yl bl 5 (some .int) [(0, 10, 13, 13)] :: zTs) (rmL mc ms) (zPl D ad ct kw ss σ q F [.ref (ad 0), .int (Int32.ofInt (xs (i + 1)).toInt), .int (Int32.ofInt (xs (i + 2)).toInt), .ref q] sz) (va_Qi (fun (x : Int32) (_ : Unit) => x = Int32.ofInt kr) (fun _ t => va_P D vwCl ((q, .inl (ct 101, 1, .inr (.inl F'))) :: zw ad ct σ zPR) t.heap) (zAl ad q sz)) (vx_X (fun _ : Unit => False) (fun _ _ _ => True) (zAl ad q sz)) mc ms (zAl ad q sz)) ∧ zsem cmM 0 crM [.inr (.inr (.inr (11, 0, 0))), .inl (xs (i + 1)).toInt, .inl (xs (i + 2)).toInt] [] τ = some (zset τ 0 0 kr, v) ∧ zsem 150 0 0 [.inr (.inr (.inr (11, 0, 0)))] [] (zset τ 0 0 kr) = some (zset τ 0 0 kr, kr) ∧ (kr = 0 → F' (Int32.toNatClampNeg 0) = (Int32.ofInt v).toInt64) ∧ Rel σ (zset τ 0 0 kr))
    (kk : ∀ (σ' τ' : zH) (F' : Nat → Int64) (H' : Heap) (locs' : List Loc) (ls' : Array Slot), zIv s D ad am ct q σ' τ' F' H' locs' → lv_has ls' 7 [(0, .ref b), (1, .ref (ad 0)), (2, .ref (am 0)), (3, .ref q), (4, .int (Int32.ofInt (i : Int)))] → W p l e R s m args below meth c H' locs' (cells + 1) (slots + 6) Q (F0 m 1606 ls' [])) : W p l e R s m args below meth c H locs cells slots Q (F0 m pc ls []) := by
  obtain ⟨hS0, hK, hSt, hTr, hX, hbl, hL, ⟨hDx, hDm, hq0, hxq, hmq, hxm⟩, hfl⟩ := hW
  obtain ⟨hPx, hPm, hPq, hHx, hHm, hR, hS⟩ := hI
  obtain ⟨kr, v, F', mc, ms, hkr, hmc, hms, hM, ev2, ev3, hF', hR'⟩ := hres
  have hx := hS0.1
  have hb := hS0.2.1
  have hts := hS0.2.2.2.2
  simp only [dCaseT, Bool.and_eq_true, decide_eq_true_eq] at hd
  obtain ⟨d0, d1, d13, d14, d17, d19, d20, d32, d35, d37, d38, d41, d43, d48, d50, d53, d54, d55, d56, d58, d59, d60, d65⟩ := hd
  obtain ⟨t1, t2, t3, t4, t5, t6, t7, t8⟩ := hkM
  obtain ⟨u1, u2, u3, u4, u5, u6, u7, u8⟩ := hkT
  have hA : ∀ z : Nat, s.heap.size ≤ z → (fun z => s.heap.size ≤ z) z := fun _ h => h
  refine lv_aload_n hx hb d0 rfl (lv_at hl 1 rfl) ?_
  refine zArgs hS0 hX hbl hL hS (lv_at hl 0 rfl) (lv_at hl 4 rfl) 2 1 (pc + 1) _ d1 (by omega) ?_
  refine lv_aload_n (pc := pc + 13) hx hb d13 rfl (lv_at hl 3 rfl) ?_
  have hsub : ∀ z, zAl ad q H.size z → (fun z => s.heap.size ≤ z) z := by
    rintro z (hz | rfl)
    · exact zA_of hDx hA hS z hz
    · exact hq0
  have hrun := vx_runSX (l := l) (below := below) (e := e) (R := R) (meth := meth) (cells := cells) (slots := slots) (g := F0 m (pc + 14) ls [.ref q, .int (Int32.ofInt (xs (i + 2)).toInt), .int (Int32.ofInt (xs (i + 1)).toInt), .ref (ad 0)]) (As := [.ref (ad 0), .int (Int32.ofInt (xs (i + 1)).toInt), .int (Int32.ofInt (xs (i + 2)).toInt), .ref q]) (rest := []) (locs := locs) hS0 (hM H.size) (vx_cwSW 4 hts hlk rfl rfl rfl ⟨by rw [hyl.1]; decide, by rw [hyl.1]; decide, hyl.2⟩ ⟨by show 8 + 1 ≤ R.frames; omega, by show 8 + (5 + 11) + 300 ≤ R.locals; omega⟩) ⟨zPl_blind, fun U hU hW => ⟨rfl, by rw [hU], by rw [hU]; exact vaP_cons hPq hPx, hK.moved hW.alike, zSt_moved hSt hW hU hS hsub, zTr_moved hTr hW hU hS hsub⟩⟩ rfl rfl hl.1 rfl (lv_room (by decide)) d14 ⟨by omega, by omega⟩
  refine vx_calli hrun hS (fun z _ h => hsub z h) hsub (fun z _ h => hsub z h) (fun E ce q9 u t H1 locs1 ht hvm hu hB hz1 hk1 hS1 hcell hv hcl => hu.elim) (fun x u t H1 locs1 ht hvm hx9 hB hz1 hk1 hS1 => ?_)
  subst hx9
  have hB : va_P D vwCl ((q, .inl (ct 101, 1, .inr (.inl F'))) :: zw ad ct σ zPR) H1 := by rw [← ht]; exact hB
  have hPx1 := vaP_tl hB
  have hPq1 := vaP_hd hB
  have hPm1 : va_P D vwCl (zw am ct τ zPMod) H1 := keepP2 hPm hk1 (fun x hx hlt => by
    rintro (h | h)
    · exact nzA hxm hx hlt h
    · obtain ⟨y, hy, e⟩ := zw_ad hx
      exact hmq y hy (by rw [← e, h]))
  refine W.widen (k := cells + 1) (n := slots + 6) (by omega) (by omega) ?_
  refine lv_istore (pc := pc + 17) (lv' := [(5, .int (Int32.ofInt kr)), (0, .ref b), (1, .ref (ad 0)), (2, .ref (am 0)), (3, .ref q), (4, .int (Int32.ofInt (i : Int)))]) hx hb d17 hl (by decide) rfl (fun ls hl => ?_)
  refine lv_aload_n (pc := pc + 19) hx hb d19 rfl (lv_at hl 3 rfl) ?_
  refine zArgs hS0 hX hbl hL hS1 (lv_at hl 1 rfl) (lv_at hl 5 rfl) 2 1 (pc + 20) _ d20 (by omega) ?_
  refine zCallI (pc := pc + 32) (ad := am) (cr := crM) (c0 := 11) (k0 := 0) (t := [.inl (xs (i + 1)).toInt, .inl (xs (i + 2)).toInt]) (σ2 := zset τ 0 0 kr) (x := v) (P := zPMod) (n := 2) (rest := []) hMM hS0 hK hSt hA hPm1 (zwD_cong hDm) hS1 zapM zclM hHm List.mem_cons_self (by decide) (okS_cons.mpr ⟨r32_to _, okS_cons.mpr ⟨r32_to _, fun _ h => nomatch h⟩⟩) ev2 t1 t2 t3 t4 t5 t6 t7 rfl hl.1 rfl t8 (by decide) hcs d32 (fun H2 locs2 hP2 hD2 hH2 hz2 hk2 hS2 => ?_)
  have hPx2 := keepP2 hPx1 hk2 (fun x hx hlt => nzA (fun e he y hy h => hxm y hy e he h.symm) hx hlt)
  have hPq2 := hPq1.kept (hk2 q hPq1.lt (nzQ hmq hPq1.lt))
  refine lv_istore (pc := pc + 35) (lv' := [(6, .int (Int32.ofInt v)), (5, .int (Int32.ofInt kr)), (0, .ref b), (1, .ref (ad 0)), (2, .ref (am 0)), (3, .ref q), (4, .int (Int32.ofInt (i : Int)))]) hx hb d35 hl (by decide) rfl (fun ls hl => ?_)
  refine lv_aload_n (pc := pc + 37) hx hb d37 rfl (lv_at hl 4 rfl) ?_
  refine zCallI (cm := 150) (pc := pc + 38) (ad := am) (cr := 0) (c0 := 11) (k0 := 0) (t := []) (σ2 := zset τ 0 0 kr) (x := kr) (P := zPMod) (n := 0) (rest := []) zmt_150 hS0 hK hSt hA hP2 (zwD_cong hDm) hS2 zapM zclM hH2 List.mem_cons_self (by decide) (fun _ h => nomatch h) ev3 u1 u2 u3 u4 u5 u6 u7 rfl hl.1 rfl u8 (by decide) hcs d38 (fun H3 locs3 hP3 hD3 hH3 hz3 hk3 hS3 => ?_)
  have hPx3 := keepP2 hPx2 hk3 (fun x hx hlt => nzA (fun e he y hy h => hxm y hy e he h.symm) hx hlt)
  have hPq3 := hPq2.kept (hk3 q hPq2.lt (nzQ hmq hPq2.lt))
  have hlo := lv_sub hl [2, 3, 4, 5, 6] rfl
  have hend : W p l e R s m args below meth c H3 locs3 (cells + 1) (slots + 6) Q (F0 m (pc + 65) ls []) := by
    refine lv_goto (tgt := 1606) hx hb d65 (by omega) ?_
    exact kk σ (zset τ 0 0 kr) F' H3 locs3 ls ⟨hPx3, hP3, hPq3, hHx, hH3, hR', hS3⟩ hlo
  refine lv_iload (pc := pc + 41) hx hb d41 (lv_at hl 1 rfl) ?_
  refine lv_icmp_eq (pc := pc + 43) (tgt := pc + 48) hx hb d43 (by omega) (fun _ => ?_) (fun hc => absurd rfl hc)
  refine lv_iload hx hb d48 (lv_at hl 1 rfl) ?_
  rcases hkr with rfl | rfl
  · refine lv_if_ne (pc := pc + 50) (tgt := pc + 65) hx hb d50 (by omega) (fun hc => absurd (by decide +kernel) hc) (fun _ => ?_)
    refine lv_aload_n (pc := pc + 53) hx hb d53 rfl (lv_at hl 5 rfl) ?_
    refine lv_iconst (pc := pc + 54) (v := 0) hx hb d54 (by decide) ?_
    refine va_lald (pc := pc + 55) (i := 0) (n := 1) (a := q) (f := F') hx hb hK (vaP_cons hPq3 hPx3) 0 1 rfl rfl (by unfold vp_in; decide +kernel) d55 ?_
    refine lv_iload (pc := pc + 56) hx hb d56 (lv_at hl 0 rfl) ?_
    refine lv_i2l (pc := pc + 58) (v := (Int32.ofInt v).toInt64) hx hb d58 rfl ?_
    rw [hF' rfl]
    refine W.lcmp (pc := pc + 59) hx hb d59 ?_
    rw [lg_cmp_self]
    exact lv_if_eq (pc := pc + 60) (tgt := pc + 65) hx hb d60 (by omega) (fun _ => hend) (fun hc => absurd rfl hc)
  · exact lv_if_ne (pc := pc + 50) (tgt := pc + 65) hx hb d50 (by omega) (fun _ => hend) (fun hc => absurd hc (by decide +kernel))
end ZLW
