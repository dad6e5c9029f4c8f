/-! EVERY INSTRUCTION of the pure machine is one of the machine's -/
section ZI
variable {ad : Nat → Nat} {ct : Nat → ClassId} {kw ss : Nat}
variable {lks : List (Nat × zK)} {p : Program} {l : Launch} {e : Env} {R : Room} {s : State} {m : MethodId} {args : Array Value} {below : List Frame} {meth : Method} {c : Code} {Q : State → Prop} {D : va_G} {P : zP} {A : Nat → Prop} {nL : Nat} {cc : ByteArray} {own : String} {mr rk pc : Nat} {L : zL} {st : List zV} {σ : zH}
theorem of_add (x y : Int) : Int32.ofInt (w32 (x + y)) = Int32.ofInt x + Int32.ofInt y := by rw [of_w32, Int32.ofInt_add]
theorem of_sub (x y : Int) : Int32.ofInt (w32 (x - y)) = Int32.ofInt x - Int32.ofInt y := by rw [of_w32, Int32.ofInt_sub]
theorem of_mul (x y : Int) : Int32.ofInt (w32 (x * y)) = Int32.ofInt x * Int32.ofInt y := by rw [of_w32, Int32.ofInt_mul]
theorem of_div {x y : Int} (hx : r32 x) (hy : r32 y) : Int32.ofInt (w32 (Int.tdiv x y)) = Int32.ofInt x / Int32.ofInt y := by
  apply Int32.toInt_inj.mp
  rw [to_of (r32_w32 _), Int32.toInt_div, to_of hx, to_of hy]
  rfl
theorem irem_mod (x y : Int32) : x - (x / y) * y = x % y := by
  apply Int32.toInt_inj.mp
  have h1 := Int32.le_toInt (x % y)
  have h2 := Int32.toInt_lt (x % y)
  rw [Int32.toInt_sub, Int32.toInt_mul, Int32.toInt_div, Int.bmod_mul_bmod, Int.sub_bmod_bmod, Int.mul_comm (x.toInt.tdiv y.toInt), ← Int.tmod_def, ← Int32.toInt_mod]
  exact Int.bmod_eq_of_le_mul_two (by omega) (by omega)
theorem of_rem {x y : Int} (hx : r32 x) (hy : r32 y) : r32 (Int.tmod x y) ∧ Int32.ofInt (Int.tmod x y) = Int32.ofInt x - Int32.ofInt x / Int32.ofInt y * Int32.ofInt y := by
  have e : Int.tmod x y = (Int32.ofInt x % Int32.ofInt y).toInt := by rw [Int32.toInt_mod, to_of hx, to_of hy]
  rw [e, irem_mod]
  exact ⟨r32_to _, Int32.ofInt_toInt _⟩
theorem of_neg (x : Int) : Int32.ofInt (w32 (- x)) = - Int32.ofInt x := by rw [of_w32, Int32.ofInt_neg]
theorem of_i2l {x : Int} (hx : r32 x) : (Int32.ofInt x).toInt64 = Int64.ofInt x := by
  apply Int64.toInt_inj.mp
  have h := hx
  unfold r32 at h
  rw [Int32.toInt_toInt64, to_of hx, to_of64]
  unfold r64
  omega
theorem of_i2b {x : Int} (hx : r32 x) : (Int32.ofInt x).toInt8.toInt32 = Int32.ofInt (w8 x) := by
  apply Int32.toInt_inj.mp
  rw [Int8.toInt_toInt32, Int32.toInt_toInt8, to_of hx, to_of (r8_r32 (r8_w8 _))]
  rfl
theorem of_lmul (x y : Int) : Int64.ofInt (w64 (x * y)) = Int64.ofInt x * Int64.ofInt y := by rw [of_w64, Int64.ofInt_mul]
theorem of_cmp {x y : Int} (hx : r64 x) (hy : r64 y) : lg_cmp (Int64.ofInt x) (Int64.ofInt y) = Int32.ofInt (zcmp x y) := by
  unfold lg_cmp zcmp
  have h1 : (Int64.ofInt x > Int64.ofInt y) ↔ y < x := by
    rw [gt_iff_lt, Int64.lt_iff_toInt_lt, to_of64 hx, to_of64 hy]
  have h2 : (Int64.ofInt x = Int64.ofInt y) ↔ x = y := by rw [← Int64.toInt_inj, to_of64 hx, to_of64 hy]
  by_cases hc : y < x
  · rw [if_pos (h1.mpr hc), if_pos hc]; rfl
  · rw [if_neg (fun q => hc (h1.mp q)), if_neg hc]
    by_cases hd : x = y
    · rw [if_pos (h2.mpr hd), if_pos hd]; rfl
    · rw [if_neg (fun q => hd (h2.mp q)), if_neg hd]; rfl
theorem nz_of {y : Int} (hy : r32 y) (h : znz y = true) : ¬ Int32.ofInt y = 0 := by
  intro h0
  have h1 : y = 0 := by
    have h2 := congrArg Int32.toInt h0
    rw [to_of hy] at h2
    exact h2
  subst h1
  cases h
theorem rbl_of {x : Int} (h : zbl x = true) : rbl x := by
  match x, h with
  | .ofNat a, h =>
    simp only [zbl, Bool.or_eq_true] at h
    rcases h with h | h
    · rw [Nat.eq_of_beq_eq_true h]; exact Or.inl rfl
    · rw [Nat.eq_of_beq_eq_true h]; exact Or.inr rfl
  | .negSucc a, h => cases h
theorem nar_z {x : Int} (h : rbl x) : narrow .boolean (.int (Int32.ofInt x)) = .int (Int32.ofInt x) := by
  rcases h with rfl | rfl <;> rfl
theorem fit_z {x : Int} (h : rbl x) : fits .boolean (.int (Int32.ofInt x)) = true := by
  rcases h with rfl | rfl <;> rfl
theorem nar_z2 {x : Int} (h : rbl x) : vp_nar .boolean (Int32.ofInt x) = Int32.ofInt x := by
  rcases h with rfl | rfl <;> rfl
/-- a cell of a plan, as a value -/
theorem okV_ref {ty len id : Nat} (hcl : zcl P) (h : (id, ty, len) ∈ P) : okV P (.inr (.inr (.inr (ty, len, id)))) ∧ ztr ad kw ss (.inr (.inr (.inr (ty, len, id)))) = .ref (ad id) := by
  have h1 : Nat.ble 200 ty = false := by
    have h2 := (hcl.2.2.2 _ h).1
    cases hb : Nat.ble 200 ty with
    | false => rfl
    | true =>
      have h3 := Nat.le_of_ble_eq_true hb
      have h4 : ty < 200 := h2
      omega
  constructor
  · simp only [okV, h1]; exact h
  · simp only [ztr, h1]
theorem okV_in {ty len id : Nat} (hcl : zcl P) (hlt : ty < 200) (h : okV P (.inr (.inr (.inr (ty, len, id))))) : (id, ty, len) ∈ P ∧ ztr ad kw ss (.inr (.inr (.inr (ty, len, id)))) = .ref (ad id) := by
  have h1 : Nat.ble 200 ty = false := by
    cases hb : Nat.ble 200 ty with
    | false => rfl
    | true =>
      have h3 := Nat.le_of_ble_eq_true hb
      omega
  simp only [okV, h1] at h
  exact ⟨h, by simp only [ztr, h1]⟩
theorem zcell_obj {id kind len : Nat} (h : kind < 100) : zcell ad ct σ (id, kind, len) = (ad id, .inr (kind, (List.range (znf kind)).map (zfv ad σ id kind))) := by
  have h1 : Nat.blt kind 100 = true := by rw [Nat.blt_eq]; exact h
  simp only [zcell, h1]
theorem zcell_arr {id kind len : Nat} (h : 100 ≤ kind) : zcell ad ct σ (id, kind, len) = (ad id, zarr ad ct σ id kind len) := by
  have h1 : Nat.blt kind 100 = false := by
    cases hb : Nat.blt kind 100 with
    | false => rfl
    | true => rw [Nat.blt_eq] at hb; omega
  simp only [zcell, h1]
/-- a field is read -/
theorem gd_get1 (C : zCx ad ct kw ss p s m args c D P A nL cc own zTs) (hL : okL P L) (hS : okS P st) (hH : okH P σ) {idx ci slot k l0 : Nat} (hdg : decode cc pc = .ok (.getfield idx, 3)) (hlk : zFL zTs own idx ci slot) (he : (k, ci, l0) ∈ P) {v : zV} {g : Bool} (hv : g = true → okV P v ∧ ztr ad kw ss v = zfv ad σ k ci slot) :
    zGd ad ct kw ss p l e R s m args below meth c Q D P A nL mr rk pc L (.inr (.inr (.inr (ci, l0, k))) :: st) σ (some (g, .inl (pc + 3, L, v :: st, σ))) := by
  obtain ⟨hx, hb, hml, hown, hts, hK, hap, hinj, hcl, hSt, hA⟩ := C
  obtain ⟨CC, T, N, ty0, h1, h2, h3, h4, h5, h6, h7, h8, h9⟩ := hlk
  refine zGd_nx (fun hg => ⟨hL, okS_cons.mpr ⟨(hv hg).1, hS⟩, hH⟩) (fun hg kk H locs ls hP hs hl => ?_)
  obtain ⟨q, hq, hzq⟩ := zw_at (ad := ad) (ct := ct) (σ := σ) he
  rw [zcell_obj h4] at hzq
  rw [List.map_cons, (okV_ref (ad := ad) (kw := kw) (ss := ss) hcl he).2]
  refine va_get hx hb hts h5 hown hK hP q hzq h1 slot h2 (hts _ h6) (fun _ h => h) (v := zfv ad σ k ci slot) ?_ hdg ?_
  · simp only [List.getElem?_map, List.getElem?_range (show slot < znf ci by rw [h3]; exact h2), Option.map_some]
  · rw [← (hv hg).2]
    exact kk H locs ls hP hs hl
theorem gd_get (C : zCx ad ct kw ss p s m args c D P A nL cc own zTs) (hL : okL P L) (hS : okS P st) (hH : okH P σ) {idx ci slot : Nat} (hdg : decode cc pc = .ok (.getfield idx, 3)) (hlk : zFL zTs own idx ci slot) :
    zGd ad ct kw ss p l e R s m args below meth c Q D P A nL mr rk pc L st σ (zget zfi ci slot (pc + 3) L st σ) := by
  have hcl := C.2.2.2.2.2.2.2.2.1
  have h4 : ci < 100 := by obtain ⟨CC, T, N, ty0, h1, h2, h3, h4, -⟩ := hlk; exact h4
  unfold zget
  split
  · rename_i c0 l0 k r
    obtain ⟨hv, hS1⟩ := okS_cons.mp hS
    cases hb : Nat.beq c0 ci with
    | false => exact zGd_none
    | true =>
      obtain rfl := Nat.eq_of_beq_eq_true hb
      obtain ⟨he, -⟩ := okV_in (ad := ad) (kw := kw) (ss := ss) hcl (show c0 < 200 by omega) hv
      have hh := hH _ he slot
      have hlt : Nat.blt c0 100 = true := by rw [Nat.blt_eq]; exact h4
      simp only [zrg, hlt] at hh
      obtain ⟨-, hc2⟩ := hcl.1 _ he h4
      simp only
      split
      · rename_i a b hz
        rw [hz] at hh
        exact gd_get1 C hL hS1 hH hdg hlk he (fun _ => ⟨hh, by simp only [zfv, hz]; rfl⟩)
      · rename_i a b hz
        rw [hz] at hh
        exact gd_get1 C hL hS1 hH hdg hlk he (fun _ => ⟨hh, by simp only [zfv, hz]; rfl⟩)
      · rename_i a b hz
        rw [hz] at hh
        exact gd_get1 C hL hS1 hH hdg hlk he (fun _ => ⟨hh, by simp only [zfv, hz]; rfl⟩)
      · rename_i a b hz
        refine gd_get1 C hL hS1 hH hdg hlk he (fun hg => ?_)
        have hm := ((hc2 slot a b).2.2.2 hz).2 _ (zio_mem hg)
        obtain ⟨z1, z2⟩ := okV_ref (ad := ad) (kw := kw) (ss := ss) hcl hm
        exact ⟨z1, by rw [z2]; simp only [zfv, hz]⟩
      · rename_i a b hz
        refine gd_get1 C hL hS1 hH hdg hlk he (fun hg => ?_)
        have hm := (hc2 slot a b).1 hz
        obtain ⟨z1, z2⟩ := okV_ref (ad := ad) (kw := kw) (ss := ss) hcl hm
        exact ⟨z1, by rw [z2]; simp only [zfv, hz]⟩
      · rename_i a b hz
        refine gd_get1 C hL hS1 hH hdg hlk he (fun hg => ?_)
        have hm := (hc2 slot a b).2.1 hz
        obtain ⟨z1, z2⟩ := okV_ref (ad := ad) (kw := kw) (ss := ss) hcl hm
        exact ⟨z1, by rw [z2]; simp only [zfv, hz]⟩
      · rename_i a b hz
        refine gd_get1 C hL hS1 hH hdg hlk he (fun hg => ?_)
        have hm := (hc2 slot a b).2.2.1 hz
        obtain ⟨z1, z2⟩ := okV_ref (ad := ad) (kw := kw) (ss := ss) hcl hm
        exact ⟨z1, by rw [z2]; simp only [zfv, hz]⟩
      · exact zGd_none
  · exact zGd_none
/-- a field is written -/
theorem gd_put1 (C : zCx ad ct kw ss p s m args c D P A nL cc own zTs) (hL : okL P L) (hS : okS P st) (hH : okH P σ) {idx ci slot k l0 : Nat} (hdg : decode cc pc = .ok (.putfield idx, 3)) (hlk : zFL zTs own idx ci slot) (he : (k, ci, l0) ∈ P) {v : zV} {x : Int} {g : Bool}
    (hr : g = true → zrf (zfi ci slot).1 x) (hf : (zfi ci slot).1 < 4) (hv : g = true → zfv ad (zset σ k slot x) k ci slot = ztr ad kw ss v) (hn : g = true → ∀ fin ty, zfk (zfi ci slot).1 fin ty → fin = false ∧ narrow ty (ztr ad kw ss v) = ztr ad kw ss v ∧ fits ty (ztr ad kw ss v) = true) :
    zGd ad ct kw ss p l e R s m args below meth c Q D P A nL mr rk pc L (v :: .inr (.inr (.inr (ci, l0, k))) :: st) σ (some (g, .inl (pc + 3, L, st, zset σ k slot x))) := by
  obtain ⟨hx, hb, hml, hown, hts, hK, hap, hinj, hcl, hSt, hA⟩ := C
  obtain ⟨CC, T, N, ty0, h1, h2, h3, h4, h5, h6, h7, h8, h9⟩ := hlk
  have hlt : Nat.blt ci 100 = true := by rw [Nat.blt_eq]; exact h4
  refine zGd_nx (fun hg => ⟨hL, hS, okH_set (e := (k, ci, l0)) hap hH he (by simp only [zrg, hlt]; exact hr hg)⟩) (fun hg kk H locs ls hP hs hl => ?_)
  obtain ⟨q, hq, hzq⟩ := zw_at (ad := ad) (ct := ct) (σ := σ) he
  have hzq' := hzq
  rw [zcell_obj h4] at hzq'
  obtain ⟨hn1, hn2, hn3⟩ := hn hg _ _ h9
  rw [List.map_cons, List.map_cons, (okV_ref (ad := ad) (kw := kw) (ss := ss) hcl he).2]
  have hnew : (zw ad ct σ P).set q (ad k, .inr (ci, ((List.range (znf ci)).map (zfv ad σ k ci)).set slot (ztr ad kw ss v))) = zw ad ct (zset σ k slot x) P := by
    rw [← zw_set (σ := σ) (τ := zset σ k slot x) hap hq (fun k' i' hk => zset_ne hk), zcell_obj h4]
    refine congrArg (fun z => (zw ad ct σ P).set q (ad k, .inr (ci, z))) ?_
    apply List.ext_getElem?
    intro j
    simp only [List.getElem?_set, List.length_map, List.length_range, List.getElem?_map]
    by_cases hj : slot = j
    · subst hj
      rw [if_pos rfl, if_pos (by rw [h3]; exact h2), List.getElem?_range (by rw [h3]; exact h2), Option.map_some, hv hg]
    · rw [if_neg hj]
      by_cases hjl : j < znf ci
      · rw [List.getElem?_range hjl, Option.map_some, Option.map_some]
        congr 1
        simp only [zfv, zset_ne2 (σ := σ) (k := k) (k' := k) (x := x) (fun h => hj (Eq.symm h) : j ≠ slot)]
      · rw [List.getElem?_eq_none (by rw [List.length_range]; omega)]
        rfl
  refine va_put hx hb hts h5 ty0 h7 h8 hown hK hP (by rw [hA]; exact zw_D hap hinj) hs q hzq' h1 slot h2 (hts _ h6) (fun _ h => h) hn1 (h7 slot h2) hn2 hn3 (by rw [List.length_map, List.length_range, h3]; exact h2) hdg (fun H1 locs1 hP1 hD1 hS1 => ?_)
  rw [hnew] at hP1
  exact kk H1 locs1 ls hP1 hS1 hl
theorem gd_put (C : zCx ad ct kw ss p s m args c D P A nL cc own zTs) (hL : okL P L) (hS : okS P st) (hH : okH P σ) {idx ci slot : Nat} (hdg : decode cc pc = .ok (.putfield idx, 3)) (hlk : zFL zTs own idx ci slot) :
    zGd ad ct kw ss p l e R s m args below meth c Q D P A nL mr rk pc L st σ (zput zfi ci slot (pc + 3) L st σ) := by
  have hcl := C.2.2.2.2.2.2.2.2.1
  have h4 : ci < 100 := by obtain ⟨CC, T, N, ty0, h1, h2, h3, h4, -⟩ := hlk; exact h4
  unfold zput
  split
  · rename_i v c0 l0 k r
    obtain ⟨hv, hS1⟩ := okS_cons.mp hS
    obtain ⟨hv0, hS2⟩ := okS_cons.mp hS1
    cases hb : Nat.beq c0 ci with
    | false => exact zGd_none
    | true =>
      obtain rfl := Nat.eq_of_beq_eq_true hb
      obtain ⟨he, -⟩ := okV_in (ad := ad) (kw := kw) (ss := ss) hcl (show c0 < 200 by omega) hv0
      simp only
      split
      · rename_i a b x hz
        refine gd_put1 (v := .inl x) C hL hS2 hH hdg hlk he (fun _ => by rw [hz]; exact hv) (by rw [hz]; exact Nat.lt_of_sub_pos (Nat.le_of_ble_eq_true rfl)) (fun _ => by simp only [zfv, hz, zset_eq]; rfl) (fun _ fin ty hk => ?_)
        rw [hz] at hk
        obtain ⟨k1, rfl⟩ := hk
        exact ⟨k1, rfl, rfl⟩
      · rename_i a b x hz
        refine gd_put1 (v := .inr (.inr (.inl x))) C hL hS2 hH hdg hlk he (fun _ => by rw [hz]; exact rbl_r32 hv) (by rw [hz]; exact Nat.lt_of_sub_pos (Nat.le_of_ble_eq_true rfl)) (fun _ => by simp only [zfv, hz, zset_eq]; rfl) (fun _ fin ty hk => ?_)
        rw [hz] at hk
        obtain ⟨k1, rfl⟩ := hk
        exact ⟨k1, rfl, rfl⟩
      · rename_i a b x hz
        refine gd_put1 (v := .inr (.inl x)) C hL hS2 hH hdg hlk he (fun _ => by rw [hz]; exact hv) (by rw [hz]; exact Nat.lt_of_sub_pos (Nat.le_of_ble_eq_true rfl)) (fun _ => by simp only [zfv, hz, zset_eq]; rfl) (fun _ fin ty hk => ?_)
        rw [hz] at hk
        obtain ⟨k1, rfl⟩ := hk
        exact ⟨k1, rfl, rfl⟩
      · rename_i a b x hz
        refine gd_put1 (v := .inl x) C hL hS2 hH hdg hlk he (fun hg => by rw [hz]; exact rbl_of hg) (by rw [hz]; exact Nat.lt_of_sub_pos (Nat.le_of_ble_eq_true rfl)) (fun _ => by simp only [zfv, hz, zset_eq]; rfl) (fun hg fin ty hk => ?_)
        rw [hz] at hk
        obtain ⟨k1, rfl⟩ := hk
        exact ⟨k1, nar_z (rbl_of hg), fit_z (rbl_of hg)⟩
      · rename_i a b x hz
        refine gd_put1 (v := .inr (.inr (.inl x))) C hL hS2 hH hdg hlk he (fun hg => by rw [hz]; exact hv) (by rw [hz]; exact Nat.lt_of_sub_pos (Nat.le_of_ble_eq_true rfl)) (fun _ => by simp only [zfv, hz, zset_eq]; rfl) (fun hg fin ty hk => ?_)
        rw [hz] at hk
        obtain ⟨k1, rfl⟩ := hk
        exact ⟨k1, nar_z hv, fit_z hv⟩
      · rename_i a b d d0 q hz
        cases hb2 : Nat.beq d a with
        | false => exact zGd_none
        | true =>
          obtain rfl := Nat.eq_of_beq_eq_true hb2
          simp only
          have hda : d < 200 := (((hcl.1 _ he h4).2 slot d b).2.2.2 hz).1
          obtain ⟨hm, hq⟩ := okV_in (ad := ad) (kw := kw) (ss := ss) hcl (show d < 200 from hda) hv
          refine gd_put1 (v := .inr (.inr (.inr (d, d0, q)))) C hL hS2 hH hdg hlk he (fun _ => by rw [hz]; trivial) (by rw [hz]; exact Nat.lt_of_sub_pos (Nat.le_of_ble_eq_true rfl)) (fun _ => by rw [hq]; simp only [zfv, hz, zset_eq]; rfl) (fun _ fin ty hk => ?_)
          rw [hz] at hk
          obtain ⟨k1, CC, rfl⟩ := hk
          rw [hq]
          exact ⟨k1, rfl, rfl⟩
      · exact zGd_none
  · exact zGd_none

/-- rows are read -/
theorem ty_at (k t : Nat) (h : k = 100 ∧ t = 0 ∨ k = 101 ∧ t = 1 ∨ k = 102 ∧ t = 2 ∨ k = 103 ∧ t = 3) : (ztys ct)[t]? = some (ct k, match k with | 100 => FieldType.int | 101 => .long | 102 => .byte | _ => .boolean) := by
  rcases h with ⟨rfl, rfl⟩ | ⟨rfl, rfl⟩ | ⟨rfl, rfl⟩ | ⟨rfl, rfl⟩ <;> rfl
theorem in_of {i : Int} {n : Nat} (hr : r32 i) {g : Bool} (hg : g = true) (h : g = true → zin i n = true) : vp_in (Int32.ofInt i) n ∧ (Int32.ofInt i).toNatClampNeg = i.toNat := vp_in_of_zin hr (h hg)
theorem arr_range (hcl : zcl P) (hH : okH P σ) {k kind len : Nat} (he : (k, kind, len) ∈ P) (hk : ¬ kind < 100) (i : Nat) : zra kind (σ k i) := by
  have h := hH _ he i
  have hlt : Nat.blt kind 100 = false := by
    cases hb : Nat.blt kind 100 with
    | false => rfl
    | true => rw [Nat.blt_eq] at hb; exact absurd hb hk
  simp only [zrg, hlt] at h
  exact h
theorem gd_iald (C : zCx ad ct kw ss p s m args c D P A nL cc own zTs) (hL : okL P L) (hS : okS P st) (hH : okH P σ) (hdg : decode cc pc = .ok (.iaload, 1)) :
    zGd ad ct kw ss p l e R s m args below meth c Q D P A nL mr rk pc L st σ (zald (pc + 1) 0 L st σ) := by
  obtain ⟨hx, hb, hml, hown, hts, hK, hap, hinj, hcl, hSt, hA⟩ := C
  unfold zald
  split
  · rename_i i ty len k r
    obtain ⟨hi, hS1⟩ := okS_cons.mp hS
    obtain ⟨hv, hS2⟩ := okS_cons.mp hS1
    by_cases h1 : ty = 100
    · subst h1
      obtain ⟨he, hq⟩ := okV_in (ad := ad) (kw := kw) (ss := ss) hcl (show (100 : Nat) < 200 by decide) hv
      refine zGd_nx (fun hg => ⟨hL, okS_cons.mpr ⟨arr_range hcl hH he (by decide) _, hS2⟩, hH⟩) (fun hg kk H locs ls hP hs hl => ?_)
      obtain ⟨n1, n2⟩ := vp_in_of_zin hi hg
      obtain ⟨q, -, hzq⟩ := zw_at (ad := ad) (ct := ct) (σ := σ) he
      rw [List.map_cons, List.map_cons, hq]
      refine va_iald hx hb hK hP q 0 (f := fun i => Int32.ofInt (σ k i)) hzq rfl n1 hdg ?_
      rw [n2]
      exact kk H locs ls hP hs hl
    · by_cases h2 : ty = 201
      · subst h2
        obtain ⟨z1, z2, z3, z4, z5, z6⟩ := hSt
        have hlen : len = 20 := by
          rcases hv with ⟨h, -⟩ | ⟨-, h⟩
          · cases h
          · exact h
        subst hlen
        refine zGd_nx (fun hg => ⟨hL, okS_cons.mpr ⟨?_, hS2⟩, hH⟩) (fun hg kk H locs ls hP hs hl => ?_)
        · show r32 (zssl.getD i.toNat 0)
          have hall : ∀ x ∈ zssl, -2147483648 ≤ x ∧ x < 2147483648 := by decide +kernel
          rw [List.getD_eq_getElem?_getD]
          cases hz : zssl[i.toNat]? with
          | none => exact ⟨by decide, by decide⟩
          | some x => exact hall x (List.mem_of_getElem? hz)
        · obtain ⟨n1, n2⟩ := vp_in_of_zin hi hg
          refine va_ti hx hb z5 hs n1 (v := .int (Int32.ofInt (zss i.toNat))) (by rw [n2]) hdg ?_
          exact kk H locs ls hP hs hl
      · split
        all_goals first | exact zGd_none | (exfalso; simp_all)
  · exact zGd_none
theorem gd_lald (C : zCx ad ct kw ss p s m args c D P A nL cc own zTs) (hL : okL P L) (hS : okS P st) (hH : okH P σ) (hdg : decode cc pc = .ok (.laload, 1)) :
    zGd ad ct kw ss p l e R s m args below meth c Q D P A nL mr rk pc L st σ (zald (pc + 1) 1 L st σ) := by
  obtain ⟨hx, hb, hml, hown, hts, hK, hap, hinj, hcl, hSt, hA⟩ := C
  unfold zald
  split
  · rename_i i ty len k r
    obtain ⟨hi, hS1⟩ := okS_cons.mp hS
    obtain ⟨hv, hS2⟩ := okS_cons.mp hS1
    by_cases h1 : ty = 101
    · subst h1
      obtain ⟨he, hq⟩ := okV_in (ad := ad) (kw := kw) (ss := ss) hcl (show (101 : Nat) < 200 by decide) hv
      refine zGd_nx (fun hg => ⟨hL, okS_cons.mpr ⟨arr_range hcl hH he (by decide) _, hS2⟩, hH⟩) (fun hg kk H locs ls hP hs hl => ?_)
      obtain ⟨n1, n2⟩ := vp_in_of_zin hi hg
      obtain ⟨q, -, hzq⟩ := zw_at (ad := ad) (ct := ct) (σ := σ) he
      rw [List.map_cons, List.map_cons, hq]
      refine va_lald hx hb hK hP q 1 (f := fun i => Int64.ofInt (σ k i)) hzq rfl n1 hdg ?_
      rw [n2]
      exact kk H locs ls hP hs hl
    · by_cases h2 : ty = 200
      · subst h2
        obtain ⟨z1, z2, z3, z4, z5, z6⟩ := hSt
        have hlen : len = 26 := by
          rcases hv with ⟨-, h⟩ | ⟨h, -⟩
          · exact h
          · cases h
        subst hlen
        refine zGd_nx (fun hg => ⟨hL, okS_cons.mpr ⟨?_, hS2⟩, hH⟩) (fun hg kk H locs ls hP hs hl => ?_)
        · show r64 (zkwl.getD i.toNat 0)
          have hall : ∀ x ∈ zkwl, -9223372036854775808 ≤ x ∧ x < 9223372036854775808 := by decide +kernel
          rw [List.getD_eq_getElem?_getD]
          cases hz : zkwl[i.toNat]? with
          | none => exact ⟨by decide, by decide⟩
          | some x => exact hall x (List.mem_of_getElem? hz)
        · obtain ⟨n1, n2⟩ := vp_in_of_zin hi hg
          refine va_tl hx hb z2 hs n1 (v := .long (Int64.ofInt (zkw i.toNat))) (by rw [n2]) hdg ?_
          exact kk H locs ls hP hs hl
      · split
        all_goals first | exact zGd_none | (exfalso; simp_all)
  · exact zGd_none
theorem gd_bald (C : zCx ad ct kw ss p s m args c D P A nL cc own zTs) (hL : okL P L) (hS : okS P st) (hH : okH P σ) (hdg : decode cc pc = .ok (.baload, 1)) :
    zGd ad ct kw ss p l e R s m args below meth c Q D P A nL mr rk pc L st σ (zald (pc + 1) 2 L st σ) := by
  obtain ⟨hx, hb, hml, hown, hts, hK, hap, hinj, hcl, hSt, hA⟩ := C
  unfold zald
  split
  · rename_i i ty len k r
    obtain ⟨hi, hS1⟩ := okS_cons.mp hS
    obtain ⟨hv, hS2⟩ := okS_cons.mp hS1
    by_cases h1 : ty = 102
    · subst h1
      obtain ⟨he, hq⟩ := okV_in (ad := ad) (kw := kw) (ss := ss) hcl (show (102 : Nat) < 200 by decide) hv
      refine zGd_nx (fun hg => ⟨hL, okS_cons.mpr ⟨r8_r32 (arr_range hcl hH he (by decide) _), hS2⟩, hH⟩) (fun hg kk H locs ls hP hs hl => ?_)
      obtain ⟨n1, n2⟩ := vp_in_of_zin hi hg
      obtain ⟨q, -, hzq⟩ := zw_at (ad := ad) (ct := ct) (σ := σ) he
      rw [List.map_cons, List.map_cons, hq]
      refine va_bald hx hb hK hP q 2 (f := fun i => Int32.ofInt (σ k i)) hzq rfl n1 hdg ?_
      rw [n2]
      exact kk H locs ls hP hs hl
    · by_cases h2 : ty = 103
      · subst h2
        obtain ⟨he, hq⟩ := okV_in (ad := ad) (kw := kw) (ss := ss) hcl (show (103 : Nat) < 200 by decide) hv
        refine zGd_nx (fun hg => ⟨hL, okS_cons.mpr ⟨arr_range hcl hH he (by decide) _, hS2⟩, hH⟩) (fun hg kk H locs ls hP hs hl => ?_)
        obtain ⟨n1, n2⟩ := vp_in_of_zin hi hg
        obtain ⟨q, -, hzq⟩ := zw_at (ad := ad) (ct := ct) (σ := σ) he
        rw [List.map_cons, List.map_cons, hq]
        refine va_zald hx hb hK hP q 3 (f := fun i => Int32.ofInt (σ k i)) hzq rfl n1 hdg ?_
        rw [n2]
        exact kk H locs ls hP hs hl
      · split
        all_goals first | exact zGd_none | (exfalso; simp_all)
  · exact zGd_none
theorem gd_aald (C : zCx ad ct kw ss p s m args c D P A nL cc own zTs) (hL : okL P L) (hS : okS P st) (hH : okH P σ) (hdg : decode cc pc = .ok (.aaload, 1)) :
    zGd ad ct kw ss p l e R s m args below meth c Q D P A nL mr rk pc L st σ (zald (pc + 1) 3 L st σ) := by
  obtain ⟨hx, hb, hml, hown, hts, hK, hap, hinj, hcl, hSt, hA⟩ := C
  unfold zald
  split
  · rename_i i ty len k r
    obtain ⟨hi, hS1⟩ := okS_cons.mp hS
    obtain ⟨hv, hS2⟩ := okS_cons.mp hS1
    by_cases h1 : ty = 115
    · subst h1
      obtain ⟨he, hq⟩ := okV_in (ad := ad) (kw := kw) (ss := ss) hcl (show (115 : Nat) < 200 by decide) hv
      have hm : zio 5 (σ k i.toNat) = true → ((σ k i.toNat).toNat, 5, 0) ∈ P := fun h => hcl.2.1 _ he rfl _ (zio_mem h)
      refine zGd_nx (fun hg => ?_) (fun hg kk H locs ls hP hs hl => ?_)
      · rw [Bool.and_eq_true] at hg
        exact ⟨hL, okS_cons.mpr ⟨(okV_ref (ad := ad) (kw := kw) (ss := ss) hcl (hm hg.2)).1, hS2⟩, hH⟩
      · rw [Bool.and_eq_true] at hg
        obtain ⟨n1, n2⟩ := vp_in_of_zin hi hg.1
        obtain ⟨q, -, hzq⟩ := zw_at (ad := ad) (ct := ct) (σ := σ) he
        rw [List.map_cons, List.map_cons, hq]
        refine va_aldq hx hb hK hP q 4 (C := "RiverText$Image") (f := fun i => some (ad (σ k i).toNat)) hzq rfl n1 hdg ?_
        rw [n2]
        have hk := kk H locs ls hP hs hl
        rw [List.map_cons, (okV_ref (ad := ad) (kw := kw) (ss := ss) hcl (hm hg.2)).2] at hk
        exact hk
    · by_cases h2 : ty = 118
      · subst h2
        obtain ⟨he, hq⟩ := okV_in (ad := ad) (kw := kw) (ss := ss) hcl (show (118 : Nat) < 200 by decide) hv
        have hm : zio 8 (σ k i.toNat) = true → ((σ k i.toNat).toNat, 8, 0) ∈ P := fun h => hcl.2.2.1 _ he rfl _ (zio_mem h)
        refine zGd_nx (fun hg => ?_) (fun hg kk H locs ls hP hs hl => ?_)
        · rw [Bool.and_eq_true] at hg
          exact ⟨hL, okS_cons.mpr ⟨(okV_ref (ad := ad) (kw := kw) (ss := ss) hcl (hm hg.2)).1, hS2⟩, hH⟩
        · rw [Bool.and_eq_true] at hg
          obtain ⟨n1, n2⟩ := vp_in_of_zin hi hg.1
          obtain ⟨q, -, hzq⟩ := zw_at (ad := ad) (ct := ct) (σ := σ) he
          rw [List.map_cons, List.map_cons, hq]
          refine va_aldq hx hb hK hP q 5 (C := "RiverText$Stream") (f := fun i => some (ad (σ k i).toNat)) hzq rfl n1 hdg ?_
          rw [n2]
          have hk := kk H locs ls hP hs hl
          rw [List.map_cons, (okV_ref (ad := ad) (kw := kw) (ss := ss) hcl (hm hg.2)).2] at hk
          exact hk
      · split
        all_goals first | exact zGd_none | (exfalso; simp_all)
  · exact zGd_none

/-- a row is written: what is kept of it -/
theorem ast_upd (hap : zapart P) {k kind len i : Nat} {x : Int} {q : Nat} (hq : P[q]? = some (k, kind, len)) (hk : ¬ kind < 100) : (zw ad ct σ P).set q (ad k, zarr ad ct (zset σ k i x) k kind len) = zw ad ct (zset σ k i x) P := by
  rw [← zw_set (σ := σ) (τ := zset σ k i x) hap hq (fun k' i' hk => zset_ne hk), zcell_arr (show 100 ≤ (k, kind, len).2.1 from Nat.not_lt.mp hk)]
theorem okH_ast (hap : zapart P) (hH : okH P σ) {k kind len i : Nat} {x : Int} (he : (k, kind, len) ∈ P) (hk : ¬ kind < 100) (hx : zra kind x) : okH P (zset σ k i x) := by
  refine okH_set (e := (k, kind, len)) hap hH he ?_
  have hlt : Nat.blt kind 100 = false := by
    cases hb : Nat.blt kind 100 with
    | false => rfl
    | true => rw [Nat.blt_eq] at hb; exact absurd hb hk
  simp only [zrg, hlt]
  exact hx
theorem gd_iast (C : zCx ad ct kw ss p s m args c D P A nL cc own zTs) (hL : okL P L) (hS : okS P st) (hH : okH P σ) (hdg : decode cc pc = .ok (.iastore, 1)) :
    zGd ad ct kw ss p l e R s m args below meth c Q D P A nL mr rk pc L st σ (zast (pc + 1) 0 L st σ) := by
  obtain ⟨hx, hb, hml, hown, hts, hK, hap, hinj, hcl, hSt, hA⟩ := C
  unfold zast
  split
  · rename_i v i ty len k r
    obtain ⟨hv, hS1⟩ := okS_cons.mp hS
    obtain ⟨hi, hS2⟩ := okS_cons.mp hS1
    obtain ⟨hw, hS3⟩ := okS_cons.mp hS2
    by_cases h1 : ty = 100
    · subst h1
      obtain ⟨he, hq⟩ := okV_in (ad := ad) (kw := kw) (ss := ss) hcl (show (100 : Nat) < 200 by decide) hw
      have main : ∀ (x : Int), okV P (.inl x) → zGd ad ct kw ss p l e R s m args below meth c Q D P A nL mr rk pc L (.inl x :: .inl i :: .inr (.inr (.inr (100, len, k))) :: r) σ (some (zin i len, .inl (pc + 1, L, r, zset σ k i.toNat (x)))) := by
        intro x hv
        refine zGd_nx (fun hg => ⟨hL, hS3, okH_ast hap hH he (by decide) hv⟩) (fun hg kk H locs ls hP hs hl => ?_)
        obtain ⟨n1, n2⟩ := vp_in_of_zin hi hg
        obtain ⟨q, hq0, hzq⟩ := zw_at (ad := ad) (ct := ct) (σ := σ) he
        rw [List.map_cons, List.map_cons, List.map_cons, hq]
        refine va_iast hx hb hK hP (by rw [hA]; exact zw_D hap hinj) hs q 0 (f := fun i => Int32.ofInt (σ k i)) hzq rfl n1 hdg (fun H1 locs1 hP1 hD1 hS1 => ?_)
        refine kk H1 locs1 ls ?_ hS1 hl
        rw [← ast_upd hap hq0 (by decide)]
        have hf : upd (fun i => Int32.ofInt (σ k i)) (Int32.ofInt i).toNatClampNeg (Int32.ofInt x) = fun j => Int32.ofInt (zset σ k i.toNat x k j) := by
          funext j
          rw [n2]
          by_cases hj : j = i.toNat
          · subst hj; simp only [upd, if_true, zset_eq]
          · simp only [upd, if_neg hj, zset_ne2 hj]
        rw [hf] at hP1
        exact hP1
      match v, hv with
      | .inl x, hv => exact main x hv
      | .inr (.inl x), hv => exact zGd_none
      | .inr (.inr (.inl x)), hv => exact zGd_none
      | .inr (.inr (.inr x)), hv => exact zGd_none
    · split
      all_goals first | exact zGd_none | (exfalso; simp_all)
  · exact zGd_none
theorem gd_last (C : zCx ad ct kw ss p s m args c D P A nL cc own zTs) (hL : okL P L) (hS : okS P st) (hH : okH P σ) (hdg : decode cc pc = .ok (.lastore, 1)) :
    zGd ad ct kw ss p l e R s m args below meth c Q D P A nL mr rk pc L st σ (zast (pc + 1) 1 L st σ) := by
  obtain ⟨hx, hb, hml, hown, hts, hK, hap, hinj, hcl, hSt, hA⟩ := C
  unfold zast
  split
  · rename_i v i ty len k r
    obtain ⟨hv, hS1⟩ := okS_cons.mp hS
    obtain ⟨hi, hS2⟩ := okS_cons.mp hS1
    obtain ⟨hw, hS3⟩ := okS_cons.mp hS2
    by_cases h1 : ty = 101
    · subst h1
      obtain ⟨he, hq⟩ := okV_in (ad := ad) (kw := kw) (ss := ss) hcl (show (101 : Nat) < 200 by decide) hw
      have main : ∀ (x : Int), okV P (.inr (.inl x)) → zGd ad ct kw ss p l e R s m args below meth c Q D P A nL mr rk pc L (.inr (.inl x) :: .inl i :: .inr (.inr (.inr (101, len, k))) :: r) σ (some (zin i len, .inl (pc + 1, L, r, zset σ k i.toNat (x)))) := by
        intro x hv
        refine zGd_nx (fun hg => ⟨hL, hS3, okH_ast hap hH he (by decide) hv⟩) (fun hg kk H locs ls hP hs hl => ?_)
        obtain ⟨n1, n2⟩ := vp_in_of_zin hi hg
        obtain ⟨q, hq0, hzq⟩ := zw_at (ad := ad) (ct := ct) (σ := σ) he
        rw [List.map_cons, List.map_cons, List.map_cons, hq]
        refine va_last hx hb hK hP (by rw [hA]; exact zw_D hap hinj) hs q 1 (f := fun i => Int64.ofInt (σ k i)) hzq rfl n1 hdg (fun H1 locs1 hP1 hD1 hS1 => ?_)
        refine kk H1 locs1 ls ?_ hS1 hl
        rw [← ast_upd hap hq0 (by decide)]
        have hf : vp_updL (fun i => Int64.ofInt (σ k i)) (Int32.ofInt i).toNatClampNeg (Int64.ofInt x) = fun j => Int64.ofInt (zset σ k i.toNat x k j) := by
          funext j
          rw [n2]
          by_cases hj : j = i.toNat
          · subst hj; simp only [vp_updL, if_true, zset_eq]
          · simp only [vp_updL, if_neg hj, zset_ne2 hj]
        rw [hf] at hP1
        exact hP1
      match v, hv with
      | .inl x, hv => exact zGd_none
      | .inr (.inl x), hv => exact main x hv
      | .inr (.inr (.inl x)), hv => exact zGd_none
      | .inr (.inr (.inr x)), hv => exact zGd_none
    · split
      all_goals first | exact zGd_none | (exfalso; simp_all)
  · exact zGd_none
theorem gd_bast (C : zCx ad ct kw ss p s m args c D P A nL cc own zTs) (hL : okL P L) (hS : okS P st) (hH : okH P σ) (hdg : decode cc pc = .ok (.bastore, 1)) :
    zGd ad ct kw ss p l e R s m args below meth c Q D P A nL mr rk pc L st σ (zast (pc + 1) 2 L st σ) := by
  obtain ⟨hx, hb, hml, hown, hts, hK, hap, hinj, hcl, hSt, hA⟩ := C
  unfold zast
  split
  · rename_i v i ty len k r
    obtain ⟨hv, hS1⟩ := okS_cons.mp hS
    obtain ⟨hi, hS2⟩ := okS_cons.mp hS1
    obtain ⟨hw, hS3⟩ := okS_cons.mp hS2
    by_cases h1 : ty = 102
    · subst h1
      obtain ⟨he, hq⟩ := okV_in (ad := ad) (kw := kw) (ss := ss) hcl (show (102 : Nat) < 200 by decide) hw
      have main : ∀ (x : Int), okV P (.inl x) → zGd ad ct kw ss p l e R s m args below meth c Q D P A nL mr rk pc L (.inl x :: .inl i :: .inr (.inr (.inr (102, len, k))) :: r) σ (some (zin i len, .inl (pc + 1, L, r, zset σ k i.toNat (w8 x)))) := by
        intro x hv
        refine zGd_nx (fun hg => ⟨hL, hS3, okH_ast hap hH he (by decide) (r8_w8 _)⟩) (fun hg kk H locs ls hP hs hl => ?_)
        obtain ⟨n1, n2⟩ := vp_in_of_zin hi hg
        obtain ⟨q, hq0, hzq⟩ := zw_at (ad := ad) (ct := ct) (σ := σ) he
        rw [List.map_cons, List.map_cons, List.map_cons, hq]
        refine va_bast hx hb hK hP (by rw [hA]; exact zw_D hap hinj) hs q 2 (f := fun i => Int32.ofInt (σ k i)) hzq rfl n1 hdg (fun H1 locs1 hP1 hD1 hS1 => ?_)
        refine kk H1 locs1 ls ?_ hS1 hl
        rw [← ast_upd hap hq0 (by decide)]
        have hf : upd (fun i => Int32.ofInt (σ k i)) (Int32.ofInt i).toNatClampNeg (vp_nar .byte (Int32.ofInt x)) = fun j => Int32.ofInt (zset σ k i.toNat (w8 x) k j) := by
          funext j
          rw [n2, vp_nar_byte, of_i2b hv]
          by_cases hj : j = i.toNat
          · subst hj; simp only [upd, if_true, zset_eq]
          · simp only [upd, if_neg hj, zset_ne2 hj]
        rw [hf] at hP1
        exact hP1
      match v, hv with
      | .inl x, hv => exact main x hv
      | .inr (.inl x), hv => exact zGd_none
      | .inr (.inr (.inl x)), hv => exact zGd_none
      | .inr (.inr (.inr x)), hv => exact zGd_none
    · by_cases h2 : ty = 103
      · subst h2
        obtain ⟨he, hq⟩ := okV_in (ad := ad) (kw := kw) (ss := ss) hcl (show (103 : Nat) < 200 by decide) hw
        have main : ∀ (x : Int) (g : Bool), (g = true → zin i len = true ∧ rbl x) → ztr ad kw ss v = .int (Int32.ofInt x) → zGd ad ct kw ss p l e R s m args below meth c Q D P A nL mr rk pc L (v :: .inl i :: .inr (.inr (.inr (103, len, k))) :: r) σ (some (g, .inl (pc + 1, L, r, zset σ k i.toNat x))) := by
          intro x g hgx hvx
          refine zGd_nx (fun hg => ⟨hL, hS3, okH_ast hap hH he (by decide) (hgx hg).2⟩) (fun hg kk H locs ls hP hs hl => ?_)
          obtain ⟨n1, n2⟩ := vp_in_of_zin hi (hgx hg).1
          obtain ⟨q, hq0, hzq⟩ := zw_at (ad := ad) (ct := ct) (σ := σ) he
          rw [List.map_cons, List.map_cons, List.map_cons, hq, hvx]
          refine va_zast hx hb hK hP (by rw [hA]; exact zw_D hap hinj) hs q 3 (f := fun i => Int32.ofInt (σ k i)) hzq rfl n1 hdg (fun H1 locs1 hP1 hD1 hS1 => ?_)
          refine kk H1 locs1 ls ?_ hS1 hl
          rw [← ast_upd hap hq0 (by decide)]
          have hf : upd (fun i => Int32.ofInt (σ k i)) (Int32.ofInt i).toNatClampNeg (vp_nar .boolean (Int32.ofInt x)) = fun j => Int32.ofInt (zset σ k i.toNat x k j) := by
            funext j
            rw [n2, nar_z2 (hgx hg).2]
            by_cases hj : j = i.toNat
            · subst hj; simp only [upd, if_true, zset_eq]
            · simp only [upd, if_neg hj, zset_ne2 hj]
          rw [hf] at hP1
          exact hP1
        match v, hv, main with
        | .inl x, hv, main => exact main _ _ (fun hg => by rw [Bool.and_eq_true] at hg; exact ⟨hg.2, rbl_of hg.1⟩) rfl
        | .inr (.inl x), hv, main => exact zGd_none
        | .inr (.inr (.inl x)), hv, main => exact main _ _ (fun hg => ⟨hg, hv⟩) rfl
        | .inr (.inr (.inr x)), hv, main => exact zGd_none
      · split
        all_goals first | exact zGd_none | (exfalso; simp_all)
  · exact zGd_none
theorem gd_aast (C : zCx ad ct kw ss p s m args c D P A nL cc own zTs) (hL : okL P L) (hS : okS P st) (hH : okH P σ) (hdg : decode cc pc = .ok (.aastore, 1)) :
    zGd ad ct kw ss p l e R s m args below meth c Q D P A nL mr rk pc L st σ (zast (pc + 1) 3 L st σ) := by
  obtain ⟨hx, hb, hml, hown, hts, hK, hap, hinj, hcl, hSt, hA⟩ := C
  unfold zast
  split
  · rename_i v i ty len k r
    obtain ⟨hv, hS1⟩ := okS_cons.mp hS
    obtain ⟨hi, hS2⟩ := okS_cons.mp hS1
    obtain ⟨hw, hS3⟩ := okS_cons.mp hS2
    by_cases h1 : ty = 118
    · subst h1
      obtain ⟨he, hq⟩ := okV_in (ad := ad) (kw := kw) (ss := ss) hcl (show (118 : Nat) < 200 by decide) hw
      have main : ∀ (l8 q8 : Nat), okV P (.inr (.inr (.inr (8, l8, q8)))) → zGd ad ct kw ss p l e R s m args below meth c Q D P A nL mr rk pc L (.inr (.inr (.inr (8, l8, q8))) :: .inl i :: .inr (.inr (.inr (118, len, k))) :: r) σ (some (zin i len, .inl (pc + 1, L, r, zset σ k i.toNat (Int.ofNat q8)))) := by
        intro l8 q8 hv
        obtain ⟨he8, hq8⟩ := okV_in (ad := ad) (kw := kw) (ss := ss) hcl (show (8 : Nat) < 200 by decide) hv
        refine zGd_nx (fun hg => ⟨hL, hS3, okH_ast hap hH he (by decide) trivial⟩) (fun hg kk H locs ls hP hs hl => ?_)
        obtain ⟨n1, n2⟩ := vp_in_of_zin hi hg
        obtain ⟨q, hq0, hzq⟩ := zw_at (ad := ad) (ct := ct) (σ := σ) he
        obtain ⟨q9, hq09, hzq9⟩ := zw_at (ad := ad) (ct := ct) (σ := σ) he8
        rw [zcell_obj (show (8 : Nat) < 100 by decide)] at hzq9
        rw [List.map_cons, List.map_cons, List.map_cons, hq, hq8]
        refine va_astq hx hb hK hP (by rw [hA]; exact zw_D hap hinj) hs q 5 q9 8 (r := (RX8, TX8, 16)) (f := fun i => some (ad (σ k i).toNat)) hzq rfl hzq9 rfl n1 hdg (fun H1 locs1 hP1 hD1 hS1 => ?_)
        refine kk H1 locs1 ls ?_ hS1 hl
        rw [← ast_upd hap hq0 (by decide)]
        have hf : va_up (fun i => some (ad (σ k i).toNat)) (Int32.ofInt i).toNatClampNeg (some (ad q8)) = fun j => some (ad (zset σ k i.toNat (Int.ofNat q8) k j).toNat) := by
          funext j
          rw [n2]
          by_cases hj : j = i.toNat
          · subst hj; simp only [va_up, if_true, zset_eq]; rfl
          · simp only [va_up, if_neg hj, zset_ne2 hj]
        rw [hf] at hP1
        exact hP1
      match v, hv with
      | .inl x, hv => exact zGd_none
      | .inr (.inl x), hv => exact zGd_none
      | .inr (.inr (.inl x)), hv => exact zGd_none
      | .inr (.inr (.inr (d8, l8, q8))), hv =>
        by_cases h8 : d8 = 8
        · subst h8; exact main l8 q8 hv
        · split
          all_goals first | exact zGd_none | (exfalso; simp_all)
    · split
      all_goals first | exact zGd_none | (exfalso; simp_all)
  · exact zGd_none

theorem ofI_nat (n : Nat) : Int32.ofInt (Int.ofNat n) = Int32.ofNat n := by
  apply Int32.toBitVec_inj.mp
  simp [Int32.ofInt, Int32.ofNat]
theorem gd_alen (C : zCx ad ct kw ss p s m args c D P A nL cc own zTs) (hL : okL P L) (hS : okS P st) (hH : okH P σ) {ty n k : Nat} {r : List zV} (hst : st = .inr (.inr (.inr (ty, n, k))) :: r) (hty : Nat.ble 100 ty = true) (hdg : decode cc pc = .ok (.arraylength, 1)) :
    zGd ad ct kw ss p l e R s m args below meth c Q D P A nL mr rk pc L st σ (some (true, .inl (pc + 1, L, .inl (Int.ofNat n) :: r, σ))) := by
  obtain ⟨hx, hb, hml, hown, hts, hK, hap, hinj, hcl, hSt, hA⟩ := C
  subst hst
  obtain ⟨hv, hS⟩ := okS_cons.mp hS
  cases hb2 : Nat.ble 200 ty with
  | true =>
    simp only [okV, hb2] at hv
    refine zGd_nx (fun _ => ⟨hL, okS_cons.mpr ⟨?_, hS⟩, hH⟩) (fun hg kk H locs ls hP hs hl => ?_)
    · rcases hv with ⟨-, rfl⟩ | ⟨-, rfl⟩ <;> exact ⟨by decide, by decide⟩
    · obtain ⟨z1, z2, z3, z4, z5, z6⟩ := hSt
      rcases hv with ⟨rfl, rfl⟩ | ⟨rfl, rfl⟩
      · exact va_tlen hx hb z2 hs (v := Int32.ofInt (Int.ofNat 26)) rfl hdg (kk H locs ls hP hs hl)
      · exact va_tlen hx hb z5 hs (v := Int32.ofInt (Int.ofNat 20)) rfl hdg (kk H locs ls hP hs hl)
  | false =>
    simp only [okV, hb2] at hv
    obtain ⟨-, hkinds, hlen⟩ := hcl.2.2.2 _ hv
    have hlen : n < 10000 := hlen
    have h100 := Nat.le_of_ble_eq_true hty
    refine zGd_nx (fun _ => ⟨hL, okS_cons.mpr ⟨?_, hS⟩, hH⟩) (fun hg kk H locs ls hP hs hl => ?_)
    · show r32 (Int.ofNat n)
      constructor
      · have := Int.natCast_nonneg n; show _ ≤ (n : Int); omega
      · show (n : Int) < _; omega
    · obtain ⟨q, -, hzq⟩ := zw_at (ad := ad) (ct := ct) (σ := σ) hv
      rw [zcell_arr (show 100 ≤ (k, ty, n).2.1 from h100)] at hzq
      rw [List.map_cons, (okV_ref (ad := ad) (kw := kw) (ss := ss) hcl hv).2]
      have hk : W p l e R s m args below meth c H locs 0 0 Q (F0 m (pc + 1) ls (.int (Int32.ofNat n) :: r.map (ztr ad kw ss))) := by
        have h9 := kk H locs ls hP hs hl
        rw [List.map_cons] at h9
        rw [← ofI_nat]
        exact h9
      have hkinds : ty < 100 ∨ ty = 100 ∨ ty = 101 ∨ ty = 102 ∨ ty = 103 ∨ ty = 115 ∨ ty = 118 := hkinds
      rcases hkinds with h | rfl | rfl | rfl | rfl | rfl | rfl
      · omega
      · exact va_alen hx hb hK hP q 0 hzq rfl (v := Int32.ofNat n) rfl hdg hk
      · exact va_alen hx hb hK hP q 1 hzq rfl (v := Int32.ofNat n) rfl hdg hk
      · exact va_alen hx hb hK hP q 2 hzq rfl (v := Int32.ofNat n) rfl hdg hk
      · exact va_alen hx hb hK hP q 3 hzq rfl (v := Int32.ofNat n) rfl hdg hk
      · exact va_alen hx hb hK hP q 4 hzq rfl (v := Int32.ofNat n) rfl hdg hk
      · exact va_alen hx hb hK hP q 5 hzq rfl (v := Int32.ofNat n) rfl hdg hk
/-- what a copy asks -/
theorem zcg_of {sp dp n : Int} {n0 n1 : Nat} (hr : r32 sp ∧ r32 dp ∧ r32 n) (h : zcg sp n0 dp n1 n = true) : (¬ Int32.ofInt sp < 0 ∧ ¬ Int32.ofInt dp < 0 ∧ ¬ Int32.ofInt n < 0) ∧ ((Int32.ofInt sp).toNatClampNeg = sp.toNat ∧ (Int32.ofInt dp).toNatClampNeg = dp.toNat ∧ (Int32.ofInt n).toNatClampNeg = n.toNat) ∧ sp.toNat + n.toNat ≤ n0 ∧ dp.toNat + n.toNat ≤ n1 := by
  obtain ⟨h1, h2, h3⟩ := hr
  have key : ∀ {x : Int}, r32 x → 0 ≤ x → ¬ Int32.ofInt x < 0 := by
    intro x hx h0 h
    rw [Int32.lt_iff_toInt_lt, to_of hx, Int32.toInt_zero] at h
    omega
  have key2 : ∀ {x : Int}, r32 x → (Int32.ofInt x).toNatClampNeg = x.toNat := fun hx => by unfold Int32.toNatClampNeg; rw [to_of hx]
  match sp, dp, n, h with
  | .ofNat a, .ofNat b, .ofNat d, h =>
    simp only [zcg, Bool.and_eq_true] at h
    exact ⟨⟨key h1 (Int.natCast_nonneg a), key h2 (Int.natCast_nonneg b), key h3 (Int.natCast_nonneg d)⟩, ⟨key2 h1, key2 h2, key2 h3⟩, Nat.le_of_ble_eq_true h.1, Nat.le_of_ble_eq_true h.2⟩
theorem okH_cp (hap : zapart P) (hH : okH P σ) {k0 k1 kind n0 n1 a b d : Nat} (he0 : (k0, kind, n0) ∈ P) (he : (k1, kind, n1) ∈ P) (hk : ¬ kind < 100) : okH P (zcp σ k0 a k1 b d) := by
  intro f hf j
  by_cases hc : f.1 = k1 ∧ b ≤ j ∧ j < b + d
  · rw [show zcp σ k0 a k1 b d f.1 j = σ k0 (a + (j - b)) from if_pos hc]
    obtain ⟨i1, h1⟩ := List.mem_iff_getElem?.mp hf
    obtain ⟨i2, h2⟩ := List.mem_iff_getElem?.mp he
    have := hap.eq h1 h2 hc.1
    subst this
    rw [h1] at h2
    cases h2
    have hlt : Nat.blt kind 100 = false := by
      cases hb : Nat.blt kind 100 with
      | false => rfl
      | true => rw [Nat.blt_eq] at hb; exact absurd hb hk
    have h9 := hH _ he0 (a + (j - b))
    simp only [zrg, hlt] at h9 ⊢
    exact h9
  · rw [show zcp σ k0 a k1 b d f.1 j = σ f.1 j from if_neg hc]
    exact hH f hf j
theorem gd_copy (C : zCx ad ct kw ss p s m args c D P A nL cc own zTs) (hR : 0 < rk → 1 ≤ R.frames ∧ 64 ≤ R.locals) (hL : okL P L) (hS : okS P st) (hH : okH P σ) {idx a b d f g : Nat} {xx : Int} (hdg : decode cc pc = .ok (.invokestatic idx, 3)) (hlk : zLK zTs own idx (5, a, b, d, f, g, xx)) :
    zGd ad ct kw ss p l e R s m args below meth c Q D P A nL mr rk pc L st σ (zinv rk (5, a, b, d, f, g, xx) (pc + 3) false L st σ) := by
  obtain ⟨hx, hb, hml, hown, hts, hK, hap, hinj, hcl, hSt, hA⟩ := C
  obtain ⟨l1, l2, l3, l4⟩ := hlk
  simp only [zinv]
  split
  · rename_i n dp t1 n1 k1 sp t0 n0 k0 rest
    obtain ⟨h1, hS1⟩ := okS_cons.mp hS
    obtain ⟨h2, hS2⟩ := okS_cons.mp hS1
    obtain ⟨h3, hS3⟩ := okS_cons.mp hS2
    obtain ⟨h4, hS4⟩ := okS_cons.mp hS3
    obtain ⟨h5, hS5⟩ := okS_cons.mp hS4
    split
    · rename_i hb2
      simp only [Bool.and_eq_true, Bool.or_eq_true] at hb2
      obtain ⟨e1, e2, e3, e4⟩ := hb2
      obtain rfl := Nat.eq_of_beq_eq_true e1
      have e3 := Nat.le_of_ble_eq_true e3
      have e4 : 0 < rk := by rw [Nat.blt_eq] at e4; exact e4
      obtain ⟨r1, r2⟩ := hR e4
      have hroom : ((rest.map (ztr ad kw ss)).map fun v => v.category).sum + (nativeFrameWords "java/lang/System" "arraycopy" 5 + 11) ≤ R.locals := by
        rw [zwd_cat]
        have : nativeFrameWords "java/lang/System" "arraycopy" 5 = 7 := by decide +kernel
        omega
      have hlt : t0 < 200 ∧ ¬ t0 < 100 := by
        rcases e2 with e2 | e2
        · rw [Nat.eq_of_beq_eq_true e2]; exact ⟨by decide, by decide⟩
        · rw [Nat.eq_of_beq_eq_true e2]; exact ⟨by decide, by decide⟩
      obtain ⟨m1, q1⟩ := okV_in (ad := ad) (kw := kw) (ss := ss) hcl hlt.1 h3
      obtain ⟨m0, q0⟩ := okV_in (ad := ad) (kw := kw) (ss := ss) hcl hlt.1 h5
      refine zGd_nx (fun hg => ⟨hL, hS5, okH_cp hap hH m0 m1 hlt.2⟩) (fun hg kk H locs ls hP hs hl => ?_)
      obtain ⟨⟨z1, z2, z3⟩, ⟨y1, y2, y3⟩, x1, x2⟩ := zcg_of ⟨h4, h2, h1⟩ hg
      obtain ⟨i1, hi1, hz1⟩ := zw_at (ad := ad) (ct := ct) (σ := σ) m1
      obtain ⟨i0, hi0, hz0⟩ := zw_at (ad := ad) (ct := ct) (σ := σ) m0
      rw [zcell_arr (show 100 ≤ (k1, t0, n1).2.1 from Nat.not_lt.mp hlt.2)] at hz1
      rw [zcell_arr (show 100 ≤ (k0, t0, n0).2.1 from Nat.not_lt.mp hlt.2)] at hz0
      rw [List.map_cons, List.map_cons, List.map_cons, List.map_cons, List.map_cons, q1, q0]
      have hnew : (zw ad ct σ P).set i1 (ad k1, zarr ad ct (zcp σ k0 sp.toNat k1 dp.toNat n.toNat) k1 t0 n1) = zw ad ct (zcp σ k0 sp.toNat k1 dp.toNat n.toNat) P := by
        rw [← zw_set (σ := σ) (τ := zcp σ k0 sp.toNat k1 dp.toNat n.toNat) hap hi1 (fun k' i' hk => if_neg (fun c => hk c.1)), zcell_arr (show 100 ≤ (k1, t0, n1).2.1 from Nat.not_lt.mp hlt.2)]
      have hlls : c.maxLocals = ls.size := by rw [hml]; exact hl.1.symm
      rcases e2 with e2 | e2
      · obtain rfl := Nat.eq_of_beq_eq_true e2
        refine va_copyi hx hb hlls hown (hts _ l1) (hts _ l2) (hts _ l3) (hts _ l4) hK hP (by rw [hA]; exact zw_D hap hinj) hs i0 i1 0 0 (f := fun i => Int32.ofInt (σ k0 i)) (g := fun i => Int32.ofInt (σ k1 i)) (ty := .int) hz0 hz1 rfl rfl rfl z1 z2 z3 (by rw [y1, y3]; exact x1) (by rw [y2, y3]; exact x2) (fun _ _ => rfl) r1 hroom hdg (fun H1 locs1 hP1 hD1 hS1 => ?_)
        refine kk H1 locs1 ls ?_ hS1 hl
        rw [← hnew]
        have hf : va_cpy (fun i => Int32.ofInt (σ k0 i)) (fun i => Int32.ofInt (σ k1 i)) (Int32.ofInt sp).toNatClampNeg (Int32.ofInt dp).toNatClampNeg (Int32.ofInt n).toNatClampNeg = fun j => Int32.ofInt (zcp σ k0 sp.toNat k1 dp.toNat n.toNat k1 j) := by
          funext j
          rw [y1, y2, y3]
          by_cases hj : dp.toNat ≤ j ∧ j < dp.toNat + n.toNat
          · rw [show zcp σ k0 sp.toNat k1 dp.toNat n.toNat k1 j = σ k0 (sp.toNat + (j - dp.toNat)) from if_pos ⟨rfl, hj⟩]
            simp only [va_cpy, if_pos hj]
          · rw [show zcp σ k0 sp.toNat k1 dp.toNat n.toNat k1 j = σ k1 j from if_neg (fun c => hj c.2)]
            simp only [va_cpy, if_neg hj]
        rw [hf] at hP1
        exact hP1
      · obtain rfl := Nat.eq_of_beq_eq_true e2
        refine va_copyl hx hb hlls hown (hts _ l1) (hts _ l2) (hts _ l3) (hts _ l4) hK hP (by rw [hA]; exact zw_D hap hinj) hs i0 i1 1 1 (f := fun i => Int64.ofInt (σ k0 i)) (g := fun i => Int64.ofInt (σ k1 i)) (ty := .long) hz0 hz1 rfl rfl rfl z1 z2 z3 (by rw [y1, y3]; exact x1) (by rw [y2, y3]; exact x2) (fun _ _ => rfl) r1 hroom hdg (fun H1 locs1 hP1 hD1 hS1 => ?_)
        refine kk H1 locs1 ls ?_ hS1 hl
        rw [← hnew]
        have hf : va_cpy (fun i => Int64.ofInt (σ k0 i)) (fun i => Int64.ofInt (σ k1 i)) (Int32.ofInt sp).toNatClampNeg (Int32.ofInt dp).toNatClampNeg (Int32.ofInt n).toNatClampNeg = fun j => Int64.ofInt (zcp σ k0 sp.toNat k1 dp.toNat n.toNat k1 j) := by
          funext j
          rw [y1, y2, y3]
          by_cases hj : dp.toNat ≤ j ∧ j < dp.toNat + n.toNat
          · rw [show zcp σ k0 sp.toNat k1 dp.toNat n.toNat k1 j = σ k0 (sp.toNat + (j - dp.toNat)) from if_pos ⟨rfl, hj⟩]
            simp only [va_cpy, if_pos hj]
          · rw [show zcp σ k0 sp.toNat k1 dp.toNat n.toNat k1 j = σ k1 j from if_neg (fun c => hj c.2)]
            simp only [va_cpy, if_neg hj]
        rw [hf] at hP1
        exact hP1
    · exact zGd_none
  · exact zGd_none
theorem of_min {a b : Int} (ha : r32 a) (hb : r32 b) : r32 (zmin a b) ∧ Int32.ofInt (zmin a b) = if Int32.ofInt b < Int32.ofInt a then Int32.ofInt b else Int32.ofInt a := by
  unfold zmin
  by_cases h : b < a
  · rw [if_pos h, if_pos ((of_lt hb ha).mpr h)]; exact ⟨hb, rfl⟩
  · rw [if_neg h, if_neg (fun q => h ((of_lt hb ha).mp q))]; exact ⟨ha, rfl⟩
theorem gd_min (C : zCx ad ct kw ss p s m args c D P A nL cc own zTs) (hR : 0 < rk → 1 ≤ R.frames ∧ 64 ≤ R.locals) (hL : okL P L) (hS : okS P st) (hH : okH P σ) {idx a b d f g : Nat} {xx : Int} (hdg : decode cc pc = .ok (.invokestatic idx, 3)) (hlk : zLK zTs own idx (6, a, b, d, f, g, xx)) :
    zGd ad ct kw ss p l e R s m args below meth c Q D P A nL mr rk pc L st σ (zinv rk (6, a, b, d, f, g, xx) (pc + 3) false L st σ) := by
  obtain ⟨hx, hb, hml, hown, hts, hK, hap, hinj, hcl, hSt, hA⟩ := C
  obtain ⟨l1, l2, l3, l4⟩ := hlk
  simp only [zinv]
  split
  · rename_i hb2
    simp only [Bool.and_eq_true] at hb2
    have e3 := Nat.le_of_ble_eq_true hb2.1
    have e4 : 0 < rk := by have := hb2.2; rw [Nat.blt_eq] at this; exact this
    obtain ⟨r1, r2⟩ := hR e4
    refine gd_zb2 (g := fun x y => if y < x then y else x) hL hS hH (fun x y hx hy => of_min hx hy) (fun H locs ls rest x y hsz hst k => ?_)
    obtain ⟨u, v, rfl⟩ := hst
    refine va_mmin hx hb (by rw [hml, hsz]) hown (hts _ l1) (hts _ l2) (hts _ l3) (hts _ l4) r1 ?_ (Nat.zero_le _) (Nat.zero_le _) hdg k
    rw [zwd_cat]
    simp only [zwd] at e3
    omega
  · exact zGd_none

theorem of_le {a b : Int} (ha : r32 a) (hb : r32 b) : Int32.ofInt a ≤ Int32.ofInt b ↔ a ≤ b := by rw [Int32.le_iff_toInt_le, to_of ha, to_of hb]
/-- a branch -/
theorem gd_br {cd : zC} {t : Nat} {L' : zL} {st' : List zV} {σ' : zH} (h1 : okL P L' ∧ okS P st' ∧ okH P σ') (h2 : (cd.1 → zWa ad ct kw ss p l e R s m args below meth c Q D P A nL t L' st' σ') → (¬ cd.1 → zWa ad ct kw ss p l e R s m args below meth c Q D P A nL (pc + 3) L' st' σ') → zWa ad ct kw ss p l e R s m args below meth c Q D P A nL pc L st σ) :
    zGd ad ct kw ss p l e R s m args below meth c Q D P A nL mr rk pc L st σ (some (true, .inr (.inr (.inr (.inl (cd, t, L', st', σ')))))) := by
  refine ⟨fun _ _ _ _ h => (by cases h), fun _ h => (by cases h), fun _ _ _ _ _ _ _ h => (by cases h), fun cd0 t0 L0 st0 σ0 h => ?_, fun _ _ _ _ _ _ h => (by cases h)⟩
  cases h
  exact ⟨h1, h2⟩
theorem tgt_of {pc : Nat} {o : Int} (h : decide (0 ≤ (pc : Int) + o) = true) : (pc : Int) + o = (ztgt pc o : Int) := by
  have h := of_decide_eq_true h
  show _ = (((pc : Int) + o).toNat : Int)
  omega
theorem gd_ifc (C : zCx ad ct kw ss p s m args c D P A nL cc own zTs) (hL : okL P L) (hS : okS P st) (hH : okH P σ) {cd : Jvm.ClassFile.Cond} {o : Int} {len : Nat} (hdg : decode cc pc = .ok (.ifCond cd o, 3)) (ho : decide (0 ≤ (pc : Int) + o) = true) :
    zGd ad ct kw ss p l e R s m args below meth c Q D P A nL mr rk pc L st σ (zst zfi lks mr rk pc len (.ifCond cd o) L st σ) := by
  obtain ⟨hx, hb, -⟩ := C
  simp only [zst]
  split
  · rename_i v r
    obtain ⟨hv, hS⟩ := okS_cons.mp hS
    split
    · rename_i x hgi
      obtain ⟨hrx, ex⟩ := zgi_ok (ad := ad) (kw := kw) (ss := ss) hgi hv
      refine gd_br ⟨hL, hS, hH⟩ (fun kt kf H locs ls hP hs hl => ?_)
      rw [List.map_cons, ex]
      have h0 : r32 0 := ⟨by decide, by decide⟩
      have e0 : Int32.ofInt 0 = 0 := rfl
      have eq0 : Int32.ofInt x = 0 ↔ x = 0 := by rw [← e0]; exact of_eq hrx h0
      have lt0 : Int32.ofInt x < 0 ↔ x < 0 := by rw [← e0]; exact of_lt hrx h0
      have gt0 : 0 < Int32.ofInt x ↔ 0 < x := by rw [← e0]; exact of_lt h0 hrx
      have ge0 : 0 ≤ Int32.ofInt x ↔ 0 ≤ x := by rw [← e0]; exact of_le h0 hrx
      have le0 : Int32.ofInt x ≤ 0 ↔ x ≤ 0 := by rw [← e0]; exact of_le hrx h0
      cases cd with
      | eq => exact lv_if_eq hx hb hdg (tgt_of ho) (fun h => kt (eq0.mp h) H locs ls hP hs hl) (fun h => kf (fun q => h (eq0.mpr q)) H locs ls hP hs hl)
      | ne => exact lv_if_ne hx hb hdg (tgt_of ho) (fun h => kt (fun q => h (eq0.mpr q)) H locs ls hP hs hl) (fun h => kf (fun q => q (eq0.mp h)) H locs ls hP hs hl)
      | lt => exact lv_if_lt hx hb hdg (tgt_of ho) (fun h => kt (lt0.mp h) H locs ls hP hs hl) (fun h => kf (fun q => h (lt0.mpr q)) H locs ls hP hs hl)
      | ge => exact lv_if_ge hx hb hdg (tgt_of ho) (fun h => kt (ge0.mp h) H locs ls hP hs hl) (fun h => kf (fun q => h (ge0.mpr q)) H locs ls hP hs hl)
      | gt => exact lv_if_gt hx hb hdg (tgt_of ho) (fun h => kt (gt0.mp h) H locs ls hP hs hl) (fun h => kf (fun q => h (gt0.mpr q)) H locs ls hP hs hl)
      | le => exact lv_if_le hx hb hdg (tgt_of ho) (fun h => kt (le0.mp h) H locs ls hP hs hl) (fun h => kf (fun q => h (le0.mpr q)) H locs ls hP hs hl)
    · exact zGd_none
  · exact zGd_none
theorem gd_icmp (C : zCx ad ct kw ss p s m args c D P A nL cc own zTs) (hL : okL P L) (hS : okS P st) (hH : okH P σ) {cd : Jvm.ClassFile.Cond} {o : Int} {len : Nat} (hdg : decode cc pc = .ok (.if_icmp cd o, 3)) (ho : decide (0 ≤ (pc : Int) + o) = true) :
    zGd ad ct kw ss p l e R s m args below meth c Q D P A nL mr rk pc L st σ (zst zfi lks mr rk pc len (.if_icmp cd o) L st σ) := by
  obtain ⟨hx, hb, -⟩ := C
  simp only [zst]
  split
  · rename_i vb va r
    obtain ⟨hvb, hS⟩ := okS_cons.mp hS
    obtain ⟨hva, hS⟩ := okS_cons.mp hS
    split
    · rename_i x y hgx hgy
      obtain ⟨hrx, ex⟩ := zgi_ok (ad := ad) (kw := kw) (ss := ss) hgx hva
      obtain ⟨hry, ey⟩ := zgi_ok (ad := ad) (kw := kw) (ss := ss) hgy hvb
      refine gd_br ⟨hL, hS, hH⟩ (fun kt kf H locs ls hP hs hl => ?_)
      rw [List.map_cons, List.map_cons, ex, ey]
      have eq0 := of_eq hrx hry
      have lt0 := of_lt hrx hry
      have gt0 := of_lt hry hrx
      have ge0 := of_le hry hrx
      have le0 := of_le hrx hry
      cases cd with
      | eq => exact lv_icmp_eq hx hb hdg (tgt_of ho) (fun h => kt (eq0.mp h) H locs ls hP hs hl) (fun h => kf (fun q => h (eq0.mpr q)) H locs ls hP hs hl)
      | ne => exact lv_icmp_ne hx hb hdg (tgt_of ho) (fun h => kt (fun q => h (eq0.mpr q)) H locs ls hP hs hl) (fun h => kf (fun q => q (eq0.mp h)) H locs ls hP hs hl)
      | lt => exact lv_icmp_lt hx hb hdg (tgt_of ho) (fun h => kt (lt0.mp h) H locs ls hP hs hl) (fun h => kf (fun q => h (lt0.mpr q)) H locs ls hP hs hl)
      | ge => exact lv_icmp_ge hx hb hdg (tgt_of ho) (fun h => kt (ge0.mp h) H locs ls hP hs hl) (fun h => kf (fun q => h (ge0.mpr q)) H locs ls hP hs hl)
      | gt => exact lv_icmp_gt hx hb hdg (tgt_of ho) (fun h => kt (gt0.mp h) H locs ls hP hs hl) (fun h => kf (fun q => h (gt0.mpr q)) H locs ls hP hs hl)
      | le => exact lv_icmp_le hx hb hdg (tgt_of ho) (fun h => kt (le0.mp h) H locs ls hP hs hl) (fun h => kf (fun q => h (le0.mpr q)) H locs ls hP hs hl)
    · exact zGd_none
  · exact zGd_none

/-- a switch -/
theorem gd_sw {x : Int} {ps : List (Int × Nat)} {d : Nat} {L' : zL} {st' : List zV} {σ' : zH} (h1 : okL P L' ∧ okS P st' ∧ okH P σ') (h2 : zswp x (zWa ad ct kw ss p l e R s m args below meth c Q D P A nL d L' st' σ') (ps.map (fun q => (q.1, zWa ad ct kw ss p l e R s m args below meth c Q D P A nL q.2 L' st' σ'))) → zWa ad ct kw ss p l e R s m args below meth c Q D P A nL pc L st σ) :
    zGd ad ct kw ss p l e R s m args below meth c Q D P A nL mr rk pc L st σ (some (true, .inr (.inr (.inr (.inr (x, ps, d, L', st', σ')))))) := by
  refine ⟨fun _ _ _ _ h => (by cases h), fun _ h => (by cases h), fun _ _ _ _ _ _ _ h => (by cases h), fun _ _ _ _ _ h => (by cases h), fun x0 ps0 d0 L0 st0 σ0 h => ?_⟩
  cases h
  exact ⟨h1, h2⟩
theorem zswp_tab {x : Int} {d : Prop} {F : Nat → Prop} {pc : Nat} : ∀ (offs : List Int) (lo : Int), zswp x d ((ztab pc lo offs).map (fun q => (q.1, F q.2))) → ((x < lo ∨ lo + offs.length ≤ x) → d) ∧ ∀ (i : Nat) (off : Int), offs[i]? = some off → x = lo + i → F (ztgt pc off)
  | [], lo, h => ⟨fun _ => h, fun i off hi => by simp at hi⟩
  | o :: t, lo, h => by
    simp only [ztab, List.map_cons, zswp] at h
    obtain ⟨h1, h2⟩ := h
    constructor
    · intro hx
      have hne : ¬ x = lo := by
        intro e
        subst e
        simp only [List.length_cons] at hx
        omega
      refine (zswp_tab t (lo + 1) (h2 hne)).1 ?_
      simp only [List.length_cons] at hx
      omega
    · intro i off hi hx
      cases i with
      | zero =>
        simp only [List.getElem?_cons_zero, Option.some.injEq] at hi
        subst hi
        exact h1 (by omega)
      | succ i =>
        simp only [List.getElem?_cons_succ] at hi
        refine (zswp_tab t (lo + 1) (h2 (by omega))).2 i off hi (by omega)
theorem zswp_look {x : Int} {d : Nat} {F : Nat → Prop} {pc : Nat} {dflt : Int} (hd : ztgt pc dflt = d) : ∀ (ps : List (Int × Int)), zswp x (F d) ((ps.map (fun q => (q.1, ztgt pc q.2))).map (fun q => (q.1, F q.2))) → F (ztgt pc (Op.lookupswitch.offset ps dflt x))
  | [], h => by
    rw [show Op.lookupswitch.offset [] dflt x = dflt from rfl, hd]
    exact h
  | (k, o) :: t, h => by
    simp only [List.map_cons, zswp] at h
    by_cases hx : x = k
    · have e : Op.lookupswitch.offset ((k, o) :: t) dflt x = o := by rw [Op.lookupswitch.offset_cons, if_pos hx.symm]
      rw [e]
      exact h.1 hx
    · have e : Op.lookupswitch.offset ((k, o) :: t) dflt x = Op.lookupswitch.offset t dflt x := by
        rw [Op.lookupswitch.offset_cons, if_neg (fun q => hx q.symm)]
      rw [e]
      exact zswp_look hd t (h.2 hx)
theorem look_in {x dflt : Int} : ∀ (ps : List (Int × Int)), Op.lookupswitch.offset ps dflt x = dflt ∨ ∃ q ∈ ps, Op.lookupswitch.offset ps dflt x = q.2
  | [] => Or.inl rfl
  | (k, o) :: t => by
    by_cases hx : x = k
    · exact Or.inr ⟨(k, o), List.mem_cons_self, by rw [Op.lookupswitch.offset_cons, if_pos hx.symm]⟩
    · have e : Op.lookupswitch.offset ((k, o) :: t) dflt x = Op.lookupswitch.offset t dflt x := by
        rw [Op.lookupswitch.offset_cons, if_neg (fun q => hx q.symm)]
      rw [e]
      rcases look_in t with h | ⟨q, h1, h2⟩
      · exact Or.inl h
      · exact Or.inr ⟨q, List.mem_cons_of_mem _ h1, h2⟩
theorem gd_tab (C : zCx ad ct kw ss p s m args c D P A nL cc own zTs) (hL : okL P L) (hS : okS P st) (hH : okH P σ) {d lo hi : Int} {offs : Array Int} {len : Nat} (hdg : decode cc pc = .ok (.tableswitch d lo hi offs, len)) (ho : zchk pc len (.tableswitch d lo hi offs) = true) :
    zGd ad ct kw ss p l e R s m args below meth c Q D P A nL mr rk pc L st σ (zst zfi lks mr rk pc len (.tableswitch d lo hi offs) L st σ) := by
  obtain ⟨hx, hb, -⟩ := C
  simp only [zchk, Bool.and_eq_true, List.all_eq_true] at ho
  obtain ⟨h1, h2, h3⟩ := ho
  have h3 := of_decide_eq_true h3
  simp only [zst]
  split
  · rename_i x r
    obtain ⟨hv, hS⟩ := okS_cons.mp hS
    refine gd_sw ⟨hL, hS, hH⟩ (fun k H locs ls hP hs hl => ?_)
    obtain ⟨k1, k2⟩ := zswp_tab (F := fun t => zWa ad ct kw ss p l e R s m args below meth c Q D P A nL t L r σ) offs.toList lo k
    have hxx : (Int32.ofInt x).toInt = x := to_of hv
    by_cases hin : x < lo ∨ hi < x
    · exact lv_tableOut hx hb hdg (by rw [hxx]; exact hin) (tgt_of h1) (k1 (by omega) H locs ls hP hs hl)
    · have hi1 : (x - lo).toNat < offs.toList.length := by omega
      have hget : offs.toList[(x - lo).toNat]? = some (offs.toList[(x - lo).toNat]'hi1) := List.getElem?_eq_getElem hi1
      refine lv_tableIn hx hb hdg (by rw [hxx]; omega) (by rw [hxx]; omega) (by rw [hxx, ← Array.getElem?_toList]; exact hget) (tgt_of (h2 _ (List.getElem_mem hi1))) ?_
      exact k2 _ _ hget (by omega) H locs ls hP hs hl
  · exact zGd_none
theorem gd_look (C : zCx ad ct kw ss p s m args c D P A nL cc own zTs) (hL : okL P L) (hS : okS P st) (hH : okH P σ) {d : Int} {ps : Array (Int × Int)} {len : Nat} (hdg : decode cc pc = .ok (.lookupswitch d ps, len)) (ho : zchk pc len (.lookupswitch d ps) = true) :
    zGd ad ct kw ss p l e R s m args below meth c Q D P A nL mr rk pc L st σ (zst zfi lks mr rk pc len (.lookupswitch d ps) L st σ) := by
  obtain ⟨hx, hb, -⟩ := C
  rw [zchk, Bool.and_eq_true, Bool.and_eq_true] at ho
  obtain ⟨h1, h2, h3⟩ := ho
  rw [List.all_eq_true] at h2
  simp only [zst]
  split
  · rename_i x r
    obtain ⟨hv, hS⟩ := okS_cons.mp hS
    refine gd_sw ⟨hL, hS, hH⟩ (fun k H locs ls hP hs hl => ?_)
    have k1 := zswp_look (F := fun t => zWa ad ct kw ss p l e R s m args below meth c Q D P A nL t L r σ) (pc := pc) (dflt := d) rfl ps.toList k
    have hxx : (Int32.ofInt x).toInt = x := to_of hv
    refine lv_lookup hx hb hdg h3 (by rw [hxx]) (tgt_of ?_) (k1 H locs ls hP hs hl)
    rcases look_in (x := x) (dflt := d) ps.toList with h | ⟨q, hq1, hq2⟩
    · rw [h]; exact h1
    · rw [hq2]; exact h2 q hq1
  · exact zGd_none
/-- an end -/
theorem gd_end {x : Int} {g : Bool} (h1 : g = true → rV mr x ∧ okH P σ) (h2 : ((∀ (H : Heap) (locs : List Loc) (ls : Array Slot) (st1 : List Value), va_P D vwCl (zw ad ct σ P) H → va_S A s.heap H locs → ((mr = 0 ∧ st1 = [] ∧ decode c.code pc = .ok (.return_, 1)) ∨ (mr = 2 ∧ st1 = [.long (Int64.ofInt x)] ∧ decode c.code pc = .ok (.lreturn, 1)) ∨ ((mr = 1 ∨ mr = 3) ∧ st1 = [.int (Int32.ofInt x)] ∧ decode c.code pc = .ok (.ireturn, 1))) → W p l e R s m args below meth c H locs 0 0 Q (F0 m pc ls st1)) → zWa ad ct kw ss p l e R s m args below meth c Q D P A nL pc L st σ)) :
    zGd ad ct kw ss p l e R s m args below meth c Q D P A nL mr rk pc L st σ (some (g, .inr (.inl x))) := by
  refine ⟨fun _ _ _ _ h => (by cases h), fun x0 h => ?_, fun _ _ _ _ _ _ _ h => (by cases h), fun _ _ _ _ _ h => (by cases h), fun _ _ _ _ _ _ h => (by cases h)⟩
  cases h
  exact ⟨(h1 rfl).1, (h1 rfl).2, h2⟩
theorem gd_iret (C : zCx ad ct kw ss p s m args c D P A nL cc own zTs) (hS : okS P st) (hH : okH P σ) {len : Nat} (hdg : decode cc pc = .ok (.ireturn, 1)) :
    zGd ad ct kw ss p l e R s m args below meth c Q D P A nL mr rk pc L st σ (zst zfi lks mr rk pc len .ireturn L st σ) := by
  obtain ⟨hx, hb, -⟩ := C
  subst hb
  simp only [zst]
  split
  · obtain ⟨hv, -⟩ := okS_cons.mp hS
    exact gd_end (fun _ => ⟨hv, hH⟩) (fun k H locs ls hP hs hl => k H locs ls _ hP hs (Or.inr (Or.inr ⟨Or.inl rfl, rfl, hdg⟩)))
  · obtain ⟨hv, -⟩ := okS_cons.mp hS
    exact gd_end (fun _ => ⟨rbl_r32 hv, hH⟩) (fun k H locs ls hP hs hl => k H locs ls _ hP hs (Or.inr (Or.inr ⟨Or.inl rfl, rfl, hdg⟩)))
  · obtain ⟨hv, -⟩ := okS_cons.mp hS
    exact gd_end (fun hg => ⟨rbl_of hg, hH⟩) (fun k H locs ls hP hs hl => k H locs ls _ hP hs (Or.inr (Or.inr ⟨Or.inr rfl, rfl, hdg⟩)))
  · obtain ⟨hv, -⟩ := okS_cons.mp hS
    exact gd_end (fun hg => ⟨hv, hH⟩) (fun k H locs ls hP hs hl => k H locs ls _ hP hs (Or.inr (Or.inr ⟨Or.inr rfl, rfl, hdg⟩)))
  · exact zGd_none
theorem gd_lret (C : zCx ad ct kw ss p s m args c D P A nL cc own zTs) (hS : okS P st) (hH : okH P σ) {len : Nat} (hdg : decode cc pc = .ok (.lreturn, 1)) :
    zGd ad ct kw ss p l e R s m args below meth c Q D P A nL mr rk pc L st σ (zst zfi lks mr rk pc len .lreturn L st σ) := by
  obtain ⟨hx, hb, -⟩ := C
  subst hb
  simp only [zst]
  split
  · obtain ⟨hv, -⟩ := okS_cons.mp hS
    exact gd_end (fun _ => ⟨hv, hH⟩) (fun k H locs ls hP hs hl => k H locs ls _ hP hs (Or.inr (Or.inl ⟨rfl, rfl, hdg⟩)))
  · exact zGd_none
theorem gd_vret (C : zCx ad ct kw ss p s m args c D P A nL cc own zTs) (hS : okS P st) (hH : okH P σ) {len : Nat} (hdg : decode cc pc = .ok (.return_, 1)) :
    zGd ad ct kw ss p l e R s m args below meth c Q D P A nL mr rk pc L st σ (zst zfi lks mr rk pc len .return_ L st σ) := by
  obtain ⟨hx, hb, -⟩ := C
  subst hb
  simp only [zst]
  split
  · exact gd_end (fun _ => ⟨trivial, hH⟩) (fun k H locs ls hP hs hl => k H locs ls _ hP hs (Or.inl ⟨rfl, rfl, hdg⟩))
  · exact zGd_none
end ZI
