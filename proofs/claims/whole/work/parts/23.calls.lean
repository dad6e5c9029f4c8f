/-! CALLS: a method's contract, used where it is called -/
section ZC
variable {ad : Nat → Nat} {ct : Nat → ClassId} {kw ss : Nat}
variable {lks : List (Nat × zK)} {p : Program} {l : Launch} {e : Env} {R : Room} {s : State} {m : MethodId} {args : Array Value} {below : List Frame} {meth : Method} {c : Code} {Q : State → Prop} {D : va_G} {P : zP} {A : Nat → Prop} {nL : Nat} {cc : ByteArray} {own : String} {mr rk pc : Nat} {L : zL} {st : List zV} {σ : zH}
theorem zpop_spec : ∀ (n : Nat) (acc st as rest : List zV), zpop n acc st = some (as, rest) → ∃ l, l.length = n ∧ as = l ++ acc ∧ st = l.reverse ++ rest
  | 0, acc, st, as, rest, h => by
    simp only [zpop, Option.some.injEq, Prod.mk.injEq] at h
    exact ⟨[], rfl, by rw [← h.1]; rfl, by rw [← h.2]; rfl⟩
  | n + 1, acc, [], as, rest, h => by cases h
  | n + 1, acc, v :: st, as, rest, h => by
    obtain ⟨l, h1, h2, h3⟩ := zpop_spec n (v :: acc) st as rest h
    refine ⟨l ++ [v], by rw [List.length_append, h1]; rfl, by rw [h2, List.append_assoc]; rfl, ?_⟩
    rw [h3, List.reverse_append]
    rfl
theorem zSt_moved {A' : Nat → Prop} {U : State} {H : Heap} {locs : List Loc} (h : zSt kw ss A s) (hW : s.WarmedH U.vm) (hU : U.heap = H) (hS : va_S A s.heap H locs) (hA : ∀ q, A' q → A q) : zSt kw ss A' U := by
  obtain ⟨z1, z2, z3, z4, z5, z6⟩ := h
  subst hU
  have hk : ∀ a : Nat, a < s.heap.size → ¬ A a → U.heap[a]? = s.heap[a]? := fun a h1 h2 => hS.2.1 a h1 h2
  exact ⟨((z1.moved hW.alike).kept hk).narrow hA, ((z2.moved hW.alike).kept hk).narrow hA, va_Nw.warmF hW z3, ((z4.moved hW.alike).kept hk).narrow hA, ((z5.moved hW.alike).kept hk).narrow hA, va_Nw.warmF hW z6⟩
theorem zSt_calling {U : State} {g : JFrame} {mk : MethodId} {a : Array Value} (h : zSt kw ss A U) : zSt kw ss A (U.calling g mk a) := by
  obtain ⟨z1, z2, z3, z4, z5, z6⟩ := h
  exact ⟨z1.moved (u := U) (U := U.calling g mk a) (Vm.Alike.refl U.vm), z2.moved (u := U) (U := U.calling g mk a) (Vm.Alike.refl U.vm), va_Nw.same (u := U) (U := U.calling g mk a) rfl rfl z3, z4.moved (u := U) (U := U.calling g mk a) (Vm.Alike.refl U.vm), z5.moved (u := U) (U := U.calling g mk a) (Vm.Alike.refl U.vm), va_Nw.same (u := U) (U := U.calling g mk a) rfl rfl z6⟩
theorem zPc_blind {as : List zV} {sz : Nat} : FrameBlind (zPc ad ct kw ss D P as σ sz) := by
  intro a U g mk q
  obtain ⟨q0, q1, q2, q3, q4⟩ := q
  exact ⟨q0, q1, q2, va_K.moved (u := U) (U := U.calling g mk a) (Vm.Alike.refl U.vm) q3, zSt_calling q4⟩
theorem zPc_of {as : List zV} {H : Heap} {locs : List Loc} (C : zCx ad ct kw ss p s m args c D P A nL cc own zTs) (hP : va_P D vwCl (zw ad ct σ P) H) (hS : va_S A s.heap H locs) (U : State) (hU : U.heap = H) (hW : s.WarmedH U.vm) : zPc ad ct kw ss D P as σ H.size (as.map (ztr ad kw ss)).toArray U := by
  obtain ⟨hx, hb, hml, hown, hts, hK, hap, hinj, hcl, hSt, hA⟩ := C
  refine ⟨rfl, by rw [hU], by rw [hU]; exact hP, hK.moved hW.alike, zSt_moved hSt hW hU hS (fun q hq => ?_)⟩
  rw [hA]
  rcases hq with hq | hq
  · exact Or.inl hq
  · exact Or.inr (Nat.le_trans hS.1 hq)
theorem zA_sub {H : Heap} {locs : List Loc} (hA : A = zA ad P s.heap.size) (hS : va_S A s.heap H locs) : ∀ q, zA ad P H.size q → A q := by
  intro q hq
  rw [hA]
  rcases hq with hq | hq
  · exact Or.inl hq
  · exact Or.inr (Nat.le_trans hS.1 hq)
theorem zGood : GoodIn zTs zTs := fun w hw => ⟨hw, good_of_word (List.mem_filter.mp hw).2⟩
theorem zGood_ws {M : zMt} (h : zMok M) : GoodIn zTs (zws M) := by
  intro w hw
  rcases List.mem_cons.mp hw with rfl | hw
  · exact zGood _ h.2.2.2.1
  · exact zGood _ hw
theorem zgood_of {w : Cond} (h : w ∈ zTs) : w ∈ zTs ∧ ((w.onTables && w.keeps) = true ∨ ∃ ty, w = .arrayClass ty) := zGood _ h
theorem map_co (as : List zV) : (as.map zco).map (ztr ad kw ss) = as.map (ztr ad kw ss) := by
  rw [List.map_map]
  apply List.map_congr_left
  intro v _
  exact ztr_co v
theorem okS_co {as : List zV} (h : okS P as) : okS P (as.map zco) := by
  intro v hv
  obtain ⟨u, hu, rfl⟩ := List.mem_map.mp hv
  exact okV_co (h u hu)
/-- behind a call -/
theorem gd_after {M : zMt} {ck cr mc : Nat} {as : List zV} {σ2 : zH} {x : Int} {H : Heap} {locs : List Loc} {ls : Array Slot} {rest : List zV} {st0 : List Value} {av : Array Value} (C : zCx ad ct kw ss p s m args c D P A nL cc own zTs) (hck : M.2.2.2.1 = ck)
    (hr : va_Run p l e R s m args below meth c H locs 0 0 0 0 (F0 m pc ls st0) (rest.map (ztr ad kw ss)) (zQc ad ct D P M.2.2.2.1 σ2 x H.size av) (zA ad P H.size))
    (hs : va_S A s.heap H locs) (hl : lv_has ls nL (ztL ad kw ss L)) {st2 : List zV} (hp : zpush ck x rest = some st2) (hrest : okS P rest)
    (kk : okH P σ2 → okS P st2 → zWa ad ct kw ss p l e R s m args below meth c Q D P A nL (pc + 3) L st2 σ2) : W p l e R s m args below meth c H locs 0 0 Q (F0 m pc ls st0) := by
  obtain ⟨hx, hb, hml, hown, hts, hK, hap, hinj, hcl, hSt, hA⟩ := C
  have hsub := zA_sub (ad := ad) (P := P) hA hs
  subst hck
  match hm : M.2.2.2.1, hp, hr with
  | 0, hp, hr =>
    cases hp
    exact va_callv (a := av) hr hs (fun q _ h => hsub q h) hsub (fun u t H1 locs1 ht hvm hw hB hz1 hk1 hS1 => kk hw hrest H1 locs1 ls (by rw [← ht]; exact hB) hS1 hl)
  | 1, hp, hr =>
    cases hp
    exact va_calli (a := av) hr hs (fun q _ h => hsub q h) hsub (fun r u t H1 locs1 ht hvm hw hB hz1 hk1 hS1 => by
      obtain ⟨rfl, hv, hh⟩ := hw
      exact kk hh (okS_cons.mpr ⟨hv, hrest⟩) H1 locs1 ls (by rw [← ht]; exact hB) hS1 hl)
  | 2, hp, hr =>
    cases hp
    exact va_calll (a := av) hr hs (fun q _ h => hsub q h) hsub (fun r u t H1 locs1 ht hvm hw hB hz1 hk1 hS1 => by
      obtain ⟨rfl, hv, hh⟩ := hw
      exact kk hh (okS_cons.mpr ⟨hv, hrest⟩) H1 locs1 ls (by rw [← ht]; exact hB) hS1 hl)
  | 3, hp, hr =>
    cases hp
    exact va_calli (a := av) hr hs (fun q _ h => hsub q h) hsub (fun r u t H1 locs1 ht hvm hw hB hz1 hk1 hS1 => by
      obtain ⟨rfl, hv, hh⟩ := hw
      exact kk hh (okS_cons.mpr ⟨hv, hrest⟩) H1 locs1 ls (by rw [← ht]; exact hB) hS1 hl)
  | n + 4, hp, hr => cases hp
/-- an outcome that is a call -/
theorem gd_call {cm cr ck : Nat} {as : List zV} {L' : zL} {st' : List zV} {σ' : zH} (h1 : okL P L' ∧ okS P st' ∧ okH P σ' ∧ okS P as ∧ zMok (zmt cm))
    (h2 : ∀ σ2 x, (∀ sz, zMet ad ct kw ss l D P cm cr (as.map zco) σ' σ2 x sz) → cr < rk → zwd st' ≤ 8 → ∀ st2, zpush ck x st' = some st2 → ((okH P σ2 → okS P st2 → zWa ad ct kw ss p l e R s m args below meth c Q D P A nL (pc + 3) L' st2 σ2) → zWa ad ct kw ss p l e R s m args below meth c Q D P A nL pc L st σ)) :
    zGd ad ct kw ss p l e R s m args below meth c Q D P A nL mr rk pc L st σ (some (true, .inr (.inr (.inl (cm, cr, ck, as, L', st', σ'))))) := by
  refine ⟨fun _ _ _ _ h => (by cases h), fun _ h => (by cases h), fun cm0 cr0 ck0 as0 L0 st0 σ0 h => ?_, fun _ _ _ _ _ h => (by cases h), fun _ _ _ _ _ _ h => (by cases h)⟩
  cases h
  exact ⟨h1, h2⟩
theorem room_le {r1 r2 : Nat} (h : r1 < r2) (M : zMt) (hM : M.2.2.1 ≤ 40) : (zroom r1).frames + 1 ≤ (zroom r2).frames ∧ 8 + (M.2.2.1 + 11) + (zroom r1).locals ≤ (zroom r2).locals := by
  constructor
  · show r1 + 1 + 1 ≤ r2 + 1; omega
  · show 8 + (M.2.2.1 + 11) + 64 * (r1 + 1) ≤ 64 * (r2 + 1); omega
theorem gd_virt (C : zCx ad ct kw ss p s m args c D P A nL cc own zTs) (hR : R = zroom rk) (hL : okL P L) (hS : okS P st) (hH : okH P σ) {idx a b ck d cr c0 l0 k0 : Nat} {t rest : List zV} (hdg : decode cc pc = .ok (.invokevirtual idx, 3)) (hlk : zLM own idx (zmt a) b ck d) (hok : zMok (zmt a))
    (hpop : zpop b [] st = some (.inr (.inr (.inr (c0, l0, k0))) :: t, rest)) (hd : Nat.beq (c0 + 1) d = true) :
    zGd ad ct kw ss p l e R s m args below meth c Q D P A nL mr rk pc L st σ (some (true, .inr (.inr (.inl (a, cr, ck, .inr (.inr (.inr (c0, l0, k0))) :: t, L, rest, σ))))) := by
  obtain ⟨hx, hb, hml, hown, hts, hK, hap, hinj, hcl, hSt, hA⟩ := id C
  obtain ⟨l9, hl1, hl2, hl3⟩ := zpop_spec _ _ _ _ _ hpop
  rw [List.append_nil] at hl2
  subst hl2
  obtain rfl := Nat.eq_of_beq_eq_true hd
  obtain ⟨k1, k2, k3, k4, k5, k6⟩ := hlk
  obtain ⟨q, hq, hq1⟩ := Option.map_eq_some_iff.mp k5
  have hc0 : c0 < 12 := (List.getElem?_eq_some_iff.mp hq).1
  have hst : okS P (.inr (.inr (.inr (c0, l0, k0))) :: t) ∧ okS P rest := by
    constructor
    · intro v hv
      exact hS v (by rw [hl3]; exact List.mem_append_left _ (List.mem_reverse.mpr hv))
    · intro v hv
      exact hS v (by rw [hl3]; exact List.mem_append_right _ hv)
  obtain ⟨he, hre⟩ := okV_in (ad := ad) (kw := kw) (ss := ss) hcl (show c0 < 200 by omega) (okS_cons.mp hst.1).1
  refine gd_call ⟨hL, hst.2, hH, hst.1, hok⟩ (fun σ2 x hMet hlt hwd st2 hpush kk H locs ls hP hs hl => ?_)
  obtain ⟨i, hi, hzi⟩ := zw_at (ad := ad) (ct := ct) (σ := σ) he
  rw [zcell_obj (show c0 < 100 by omega)] at hzi
  have hrecv := va_recv hK hP hq hzi
  rw [hq1] at hrecv
  have hn : (t.map (ztr ad kw ss)).length + 1 = b := by rw [List.length_map]; rw [← hl1]; rfl
  obtain ⟨np, hnp, hnp1⟩ := Option.map_eq_some_iff.mp k6
  have hPcs : ∀ U : State, U.heap = H → s.WarmedH U.vm → zPc ad ct kw ss D P (((.inr (.inr (.inr (c0, l0, k0)))) :: t).map zco) σ H.size (Value.ref (ad k0) :: t.map (ztr ad kw ss)).toArray U := by
    intro U hU hW
    have h9 := zPc_of (as := ((.inr (.inr (.inr (c0, l0, k0)))) :: t).map zco) (σ := σ) C hP hs U hU hW
    have e9 : (((.inr (.inr (.inr (c0, l0, k0)))) :: t).map zco).map (ztr ad kw ss) = Value.ref (ad k0) :: t.map (ztr ad kw ss) := by rw [map_co, List.map_cons, hre]
    rw [e9] at h9
    exact h9
  have hroom := room_le hlt (zmt a) hok.2.2.2.2.2.1
  rw [← hR] at hroom
  have hstk : (F0 m pc ls (st.map (ztr ad kw ss))).stack = (t.map (ztr ad kw ss)).reverse ++ Value.ref (ad k0) :: rest.map (ztr ad kw ss) := by
    show st.map (ztr ad kw ss) = _
    rw [hl3, List.map_append, List.map_reverse, List.map_cons, hre, List.reverse_cons, List.append_assoc]
    rfl
  refine gd_after (M := zmt a) (ck := ck) (cr := cr) (mc := 0) (as := []) (σ2 := σ2) (x := x) (rest := rest) C k1 (va_runV (bytes := (zmt a).2.1) (maxL := (zmt a).2.2.1) (ret := zrt (zmt a).2.2.2.1) (As := t.map (ztr ad kw ss)) (rest := rest.map (ztr ad kw ss)) (n := np) ⟨hx, hb, hml, hown, hts⟩ (hMet H.size) ?_ ⟨zPc_blind, hrecv, hPcs⟩ rfl (by omega) hl.1 hstk (lv_room (by rw [zwd_cat]; exact hwd)) hdg ⟨Nat.zero_le _, Nat.zero_le _⟩) hs hl hpush hst.2 kk
  refine cwV (y := (zmt a).1) (bytes := (zmt a).2.1) (maxL := (zmt a).2.2.1) (ret := zrt (zmt a).2.2.2.1) (ws' := zTs) np hts ?_ rfl rfl rfl ⟨rfl, hok.2.1, hok.2.2.1, hnp⟩ hroom
  intro w hw
  unfold wsV at hw
  rcases List.mem_append.mp hw with hw | hw
  · simp only [List.mem_cons, List.not_mem_nil, or_false] at hw
    rcases hw with rfl | rfl | rfl | rfl
    · exact zgood_of k2
    · exact zgood_of k3
    · exact zgood_of k4
    · exact zgood_of hok.2.2.2.2.1
  · exact zGood_ws hok w hw
theorem gd_stat (C : zCx ad ct kw ss p s m args c D P A nL cc own zTs) (hR : R = zroom rk) (hL : okL P L) (hS : okS P st) (hH : okH P σ) {idx a b ck cr : Nat} {t rest : List zV} (hdg : decode cc pc = .ok (.invokestatic idx, 3)) (hlk : zLM own idx (zmt a) b ck 0) (hok : zMok (zmt a))
    (hpop : zpop b [] st = some (t, rest)) :
    zGd ad ct kw ss p l e R s m args below meth c Q D P A nL mr rk pc L st σ (some (true, .inr (.inr (.inl (a, cr, ck, t, L, rest, σ))))) := by
  obtain ⟨hx, hb, hml, hown, hts, hK, hap, hinj, hcl, hSt, hA⟩ := id C
  obtain ⟨l9, hl1, hl2, hl3⟩ := zpop_spec _ _ _ _ _ hpop
  rw [List.append_nil] at hl2
  subst hl2
  obtain ⟨k1, k2, k3, k4⟩ := hlk
  have hst : okS P t ∧ okS P rest := by
    constructor
    · intro v hv
      exact hS v (by rw [hl3]; exact List.mem_append_left _ (List.mem_reverse.mpr hv))
    · intro v hv
      exact hS v (by rw [hl3]; exact List.mem_append_right _ hv)
  refine gd_call ⟨hL, hst.2, hH, hst.1, hok⟩ (fun σ2 x hMet hlt hwd st2 hpush kk H locs ls hP hs hl => ?_)
  have hPcs : ∀ U : State, U.heap = H → s.WarmedH U.vm → zPc ad ct kw ss D P (t.map zco) σ H.size (t.map (ztr ad kw ss)).toArray U := by
    intro U hU hW
    have h9 := zPc_of (as := t.map zco) (σ := σ) C hP hs U hU hW
    rw [map_co] at h9
    exact h9
  have hroom := room_le hlt (zmt a) hok.2.2.2.2.2.1
  rw [← hR] at hroom
  have hstk : (F0 m pc ls (st.map (ztr ad kw ss))).stack = (t.map (ztr ad kw ss)).reverse ++ rest.map (ztr ad kw ss) := by
    show st.map (ztr ad kw ss) = _
    rw [hl3, List.map_append, List.map_reverse]
  refine gd_after (M := zmt a) (ck := ck) (cr := cr) (mc := 0) (as := []) (σ2 := σ2) (x := x) (rest := rest) C k1 (va_runS (bytes := (zmt a).2.1) (maxL := (zmt a).2.2.1) (ret := zrt (zmt a).2.2.2.1) (As := t.map (ztr ad kw ss)) (rest := rest.map (ztr ad kw ss)) (n := b) ⟨hx, hb, hml, hown, hts⟩ (hMet H.size) ?_ ⟨zPc_blind, hPcs⟩ rfl (by rw [List.length_map]; exact hl1) hl.1 hstk (lv_room (by rw [zwd_cat]; exact hwd)) hdg ⟨Nat.zero_le _, Nat.zero_le _⟩) hs hl hpush hst.2 kk
  refine va_cwS (y := (zmt a).1) (bytes := (zmt a).2.1) (maxL := (zmt a).2.2.1) (ret := zrt (zmt a).2.2.2.1) (ws' := zTs) b hts ?_ rfl rfl rfl ⟨hok.2.1, hok.2.2.1, k4⟩ hroom
  intro w hw
  unfold va_wsS at hw
  rcases List.mem_append.mp hw with hw | hw
  · simp only [List.mem_cons, List.not_mem_nil, or_false] at hw
    rcases hw with rfl | rfl | rfl
    · exact zgood_of k2
    · exact zgood_of k3
    · exact zgood_of hok.2.2.2.2.1
  · exact zGood_ws hok w hw
end ZC
