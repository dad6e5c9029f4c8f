/-! zsem is the least thing that keeps its equation -/
section ZS
theorem zsw_mono {x : Int} {d1 d2 : zR} {q : zH × Int} : ∀ {l1 l2 : List (Int × zR)}, (∀ v, d1 = some v → d2 = some v) → l1.length = l2.length → (∀ (i : Nat) (a b : Int × zR), l1[i]? = some a → l2[i]? = some b → a.1 = b.1 ∧ ∀ v, a.2 = some v → b.2 = some v) → zsw x d1 l1 = some q → zsw x d2 l2 = some q
  | [], [], hd, _, _, h => hd _ h
  | [], _ :: _, _, hl, _, _ => by simp at hl
  | _ :: _, [], _, hl, _, _ => by simp at hl
  | (k1, r1) :: t1, (k2, r2) :: t2, hd, hl, hh, h => by
    obtain ⟨e1, e2⟩ := hh 0 _ _ rfl rfl
    simp only at e1 e2
    subst e1
    simp only [zsw] at h ⊢
    by_cases hx : x = k1
    · rw [if_pos hx] at h ⊢; exact e2 _ h
    · rw [if_neg hx] at h ⊢
      exact zsw_mono hd (by simpa using hl) (fun i a b ha hb => hh (i + 1) a b ha hb) h
def zle (b1 b2 : zB) : Prop := ∀ m p k v s σ r, b1 m p k v s σ = some r → b2 m p k v s σ = some r
def zKle (K1 K2 : Nat → zL → List zV → zH → zR) : Prop := ∀ t L st σ r, K1 t L st σ = some r → K2 t L st σ = some r
theorem zback_mono {b1 b2 : zB} (h : zle b1 b2) {mid t rk : Nat} {L : zL} {bl : List Nat} {st : List zV} {σ : zH} {r : zH × Int} (hr : (match zpick L bl with
    | some vs => b1 mid t rk vs st σ
    | none => none) = some r) : (match zpick L bl with
    | some vs => b2 mid t rk vs st σ
    | none => none) = some r := by
  cases hp : zpick L bl with
  | none => rw [hp] at hr; cases hr
  | some vs => rw [hp] at hr; exact h _ _ _ _ _ _ _ hr
theorem zact_mono {b1 b2 : zB} {K1 K2 : Nat → zL → List zV → zH → zR} (h : zle b1 b2) (hK : zKle K1 K2) {mid rk pc nx : Nat} {bl : List Nat} {o : Option (Bool × zO)} {r : zH × Int} (hr : zact b1 K1 mid rk pc nx bl o = some r) : zact b2 K2 mid rk pc nx bl o = some r := by
  match o, hr with
  | none, hr => cases hr
  | some (false, _), hr => simp [zact] at hr
  | some (true, .inl (t, L, st, σ)), hr =>
    simp only [zact, if_true] at hr ⊢
    cases hb : Nat.ble t pc with
    | true => rw [hb] at hr; exact zback_mono h hr
    | false => rw [hb] at hr; exact hK _ _ _ _ _ hr
  | some (true, .inr (.inl _)), hr => simp [zact] at hr
  | some (true, .inr (.inr (.inl (cm, cr, ck, args, L, st, σ)))), hr =>
    simp only [zact, if_true] at hr ⊢
    cases hb : Nat.ble (zwd st) 8 with
    | false => rw [hb] at hr; cases hr
    | true =>
      rw [hb] at hr
      simp only at hr ⊢
      cases hc : Nat.blt cr rk with
      | false => rw [hc] at hr; cases hr
      | true =>
        rw [hc] at hr
        simp only [cond_true] at hr ⊢
        cases hq : b1 cm 0 cr (args.map zco) [] σ with
        | none => rw [hq] at hr; cases hr
        | some q =>
          rw [hq] at hr
          rw [h _ _ _ _ _ _ _ hq]
          simp only [Option.bind_some] at hr ⊢
          cases hs : zpush ck q.2 st with
          | none => rw [hs] at hr; cases hr
          | some st' => rw [hs] at hr; exact hK _ _ _ _ _ hr
  | some (true, .inr (.inr (.inr (.inl (c, t, L, st, σ))))), hr =>
    obtain ⟨c, hc⟩ := c
    simp only [zact, if_true] at hr ⊢
    by_cases hcc : c
    · rw [if_pos hcc] at hr ⊢
      cases hb : Nat.ble t pc with
      | true => rw [hb] at hr; exact zback_mono h hr
      | false => rw [hb] at hr; exact hK _ _ _ _ _ hr
    · rw [if_neg hcc] at hr ⊢
      exact hK _ _ _ _ _ hr
  | some (true, .inr (.inr (.inr (.inr (x, ps, d, L, st, σ))))), hr =>
    simp only [zact, if_true] at hr ⊢
    refine zsw_mono (hK _ _ _ _) (by simp) (fun i a b ha hb => ?_) hr
    simp only [List.getElem?_map, Option.map_eq_some_iff] at ha hb
    obtain ⟨q, hq, rfl⟩ := ha
    obtain ⟨q', hq', rfl⟩ := hb
    rw [hq] at hq'
    cases hq'
    exact ⟨rfl, hK _ _ _ _⟩
/-- the last arm of a run: an end, or what zact says -/
theorem zlast_mono {b1 b2 : zB} {K1 K2 : Nat → zL → List zV → zH → zR} (h : zle b1 b2) (hK : zKle K1 K2) {mid rk pc nx : Nat} {bl : List Nat} {σ : zH} {o : Option (Bool × zO)} {r : zH × Int} (hr : zlast b1 K1 mid rk pc nx bl σ o = some r) : zlast b2 K2 mid rk pc nx bl σ o = some r := by
  match o, hr with
  | none, hr => cases hr
  | some (g, .inl v), hr => exact zact_mono (mid := mid) (rk := rk) (pc := pc) (nx := nx) (bl := bl) (o := some (g, .inl v)) (r := r) h hK hr
  | some (_, .inr (.inl _)), hr => exact hr
  | some (g, .inr (.inr (.inl v))), hr => exact zact_mono (mid := mid) (rk := rk) (pc := pc) (nx := nx) (bl := bl) (o := some (g, .inr (.inr (.inl v)))) (r := r) h hK hr
  | some (g, .inr (.inr (.inr (.inl v)))), hr => exact zact_mono (mid := mid) (rk := rk) (pc := pc) (nx := nx) (bl := bl) (o := some (g, .inr (.inr (.inr (.inl v))))) (r := r) h hK hr
  | some (g, .inr (.inr (.inr (.inr v)))), hr => exact zact_mono (mid := mid) (rk := rk) (pc := pc) (nx := nx) (bl := bl) (o := some (g, .inr (.inr (.inr (.inr v))))) (r := r) h hK hr
theorem zrun_mono {b1 b2 : zB} (h : zle b1 b2) {lks : List (Nat × zK)} {mid mr rk : Nat} : ∀ (code : List zI) (pc to : Nat) (first : Bool) (L : zL) (st : List zV) (σ : zH) (r : zH × Int), zrun zfi b1 lks mid mr rk code pc to first L st σ = some r → zrun zfi b2 lks mid mr rk code pc to first L st σ = some r := by
  intro code
  induction code with
  | nil => intro pc to first L st σ r hr; cases hr
  | cons e tl ih =>
    obtain ⟨i, len, cut, bl⟩ := e
    intro pc to first L st σ r hr
    unfold zrun at hr ⊢
    cases h1 : Nat.blt pc to with
    | true => rw [h1] at hr; exact ih _ _ _ _ _ _ _ hr
    | false =>
      rw [h1] at hr
      simp only at hr ⊢
      cases h2 : Nat.beq pc to with
      | false => rw [h2] at hr; cases hr
      | true =>
        rw [h2] at hr
        simp only at hr ⊢
        have hK : zKle (fun t L st σ => zrun zfi b1 lks mid mr rk tl (pc + len) t false L st σ) (fun t L st σ => zrun zfi b2 lks mid mr rk tl (pc + len) t false L st σ) := fun t L st σ r h => ih _ _ _ _ _ _ _ h
        match first, cut, hr with
        | false, some lv, hr => exact zback_mono h hr
        | false, none, hr => exact zlast_mono h hK hr
        | true, some lv, hr => exact zlast_mono h hK hr
        | true, none, hr => exact zlast_mono h hK hr
theorem zgo_mono {b1 b2 : zB} (h : zle b1 b2) : zle (zgo b1) (zgo b2) := by
  intro m p k v s σ r hr
  unfold zgo at hr ⊢
  cases hc : zcode m p with
  | none => rw [hc] at hr; cases hr
  | some q =>
    obtain ⟨own, mr, idxs, code⟩ := q
    rw [hc] at hr
    simp only at hr ⊢
    cases hk : zok p idxs v with
    | false => rw [hk] at hr; cases hr
    | true =>
      rw [hk] at hr
      exact zrun_mono h _ _ _ _ _ _ _ _ hr
theorem zev_succ : ∀ n, zle (zev n) (zev (n + 1))
  | 0 => fun m p k v s σ r h => by cases h
  | n + 1 => zgo_mono (zev_succ n)
theorem zev_mono {n m : Nat} (h : n ≤ m) : zle (zev n) (zev m) := by
  induction h with
  | refl => exact fun _ _ _ _ _ _ _ h => h
  | step _ ih => exact fun a b c d e f r h => zev_succ _ _ _ _ _ _ _ _ (ih _ _ _ _ _ _ _ h)
theorem zsem_iff {mid pc rk : Nat} {vs st : List zV} {σ : zH} {r : zH × Int} : zsem mid pc rk vs st σ = some r ↔ ∃ n, zev n mid pc rk vs st σ = some r := by
  constructor
  · intro h
    unfold zsem at h
    split at h
    · exact ⟨_, h⟩
    · cases h
  · rintro ⟨n, hn⟩
    have hex : ∃ n, (zev n mid pc rk vs st σ).isSome = true := ⟨n, by rw [hn]; rfl⟩
    unfold zsem
    rw [dif_pos hex]
    obtain ⟨q, hq⟩ := Option.isSome_iff_exists.mp (Classical.choose_spec hex)
    rw [hq]
    have h1 := zev_mono (Nat.le_max_left n (Classical.choose hex)) _ _ _ _ _ _ _ hn
    have h2 := zev_mono (Nat.le_max_right n (Classical.choose hex)) _ _ _ _ _ _ _ hq
    rw [h1] at h2
    exact h2.symm
theorem zle_sem (n : Nat) : zle (zev n) zsem := fun _ _ _ _ _ _ _ h => zsem_iff.mpr ⟨n, h⟩
/-- K is reached by Kn -/
def zKc (K : Nat → zL → List zV → zH → zR) (Kn : Nat → Nat → zL → List zV → zH → zR) : Prop := ∀ t L st σ r, K t L st σ = some r → ∃ n, Kn n t L st σ = some r
theorem zback_cont {mid t rk : Nat} {L : zL} {bl : List Nat} {st : List zV} {σ : zH} {r : zH × Int} (hr : (match zpick L bl with
    | some vs => zsem mid t rk vs st σ
    | none => none) = some r) : ∃ n, (match zpick L bl with
    | some vs => zev n mid t rk vs st σ
    | none => none) = some r := by
  cases hp : zpick L bl with
  | none => rw [hp] at hr; cases hr
  | some vs => rw [hp] at hr; exact zsem_iff.mp hr
theorem zsw_cont {x : Int} {L : zL} {st : List zV} {σ : zH} {r : zH × Int} {K : Nat → zL → List zV → zH → zR} {Kn : Nat → Nat → zL → List zV → zH → zR} (hK : zKc K Kn) {d : Nat} : ∀ (ps : List (Int × Nat)), zsw x (K d L st σ) (ps.map (fun q => (q.1, K q.2 L st σ))) = some r → ∃ n, zsw x (Kn n d L st σ) (ps.map (fun q => (q.1, Kn n q.2 L st σ))) = some r
  | [], h => hK _ _ _ _ _ h
  | (k, t) :: ps, h => by
    simp only [List.map_cons, zsw] at h ⊢
    by_cases hx : x = k
    · simp only [if_pos hx] at h ⊢; exact hK _ _ _ _ _ h
    · simp only [if_neg hx] at h ⊢; exact zsw_cont hK ps h
theorem zact_cont {K : Nat → zL → List zV → zH → zR} {Kn : Nat → Nat → zL → List zV → zH → zR} (hK : zKc K Kn) (hm : ∀ n m, n ≤ m → zKle (Kn n) (Kn m)) {mid rk pc nx : Nat} {bl : List Nat} {o : Option (Bool × zO)} {r : zH × Int} (hr : zact zsem K mid rk pc nx bl o = some r) : ∃ n, zact (zev n) (Kn n) mid rk pc nx bl o = some r := by
  match o, hr with
  | none, hr => cases hr
  | some (false, _), hr => simp [zact] at hr
  | some (true, .inl (t, L, st, σ)), hr =>
    simp only [zact, if_true] at hr ⊢
    cases hb : Nat.ble t pc with
    | true => rw [hb] at hr; exact zback_cont hr
    | false => rw [hb] at hr; exact hK _ _ _ _ _ hr
  | some (true, .inr (.inl _)), hr => simp [zact] at hr
  | some (true, .inr (.inr (.inl (cm, cr, ck, args, L, st, σ)))), hr =>
    simp only [zact, if_true] at hr ⊢
    cases hb : Nat.ble (zwd st) 8 with
    | false => rw [hb] at hr; cases hr
    | true =>
      rw [hb] at hr
      simp only at hr ⊢
      cases hc : Nat.blt cr rk with
      | false => rw [hc] at hr; cases hr
      | true =>
        rw [hc] at hr
        simp only [cond_true] at hr ⊢
        cases hq : zsem cm 0 cr (args.map zco) [] σ with
        | none => rw [hq] at hr; cases hr
        | some q =>
          rw [hq] at hr
          simp only [Option.bind_some] at hr
          obtain ⟨n1, h1⟩ := zsem_iff.mp hq
          cases hs : zpush ck q.2 st with
          | none => rw [hs] at hr; cases hr
          | some st' =>
            rw [hs] at hr
            obtain ⟨n2, h2⟩ := hK _ _ _ _ _ hr
            refine ⟨max n1 n2, ?_⟩
            rw [zev_mono (Nat.le_max_left n1 n2) _ _ _ _ _ _ _ h1]
            simp only [Option.bind_some, hs]
            exact hm _ _ (Nat.le_max_right n1 n2) _ _ _ _ _ h2
  | some (true, .inr (.inr (.inr (.inl (c, t, L, st, σ))))), hr =>
    obtain ⟨c, hc⟩ := c
    simp only [zact, if_true] at hr ⊢
    by_cases hcc : c
    · simp only [if_pos hcc] at hr ⊢
      cases hb : Nat.ble t pc with
      | true => rw [hb] at hr; exact zback_cont hr
      | false => rw [hb] at hr; exact hK _ _ _ _ _ hr
    · simp only [if_neg hcc] at hr ⊢
      exact hK _ _ _ _ _ hr
  | some (true, .inr (.inr (.inr (.inr (x, ps, d, L, st, σ))))), hr =>
    simp only [zact, if_true] at hr ⊢
    exact zsw_cont hK ps hr
theorem zlast_cont {K : Nat → zL → List zV → zH → zR} {Kn : Nat → Nat → zL → List zV → zH → zR} (hK : zKc K Kn) (hm : ∀ n m, n ≤ m → zKle (Kn n) (Kn m)) {mid rk pc nx : Nat} {bl : List Nat} {σ : zH} {o : Option (Bool × zO)} {r : zH × Int} (hr : zlast zsem K mid rk pc nx bl σ o = some r) : ∃ n, zlast (zev n) (Kn n) mid rk pc nx bl σ o = some r := by
  match o, hr with
  | none, hr => cases hr
  | some (g, .inl v), hr => exact zact_cont (mid := mid) (rk := rk) (pc := pc) (nx := nx) (bl := bl) (o := some (g, .inl v)) (r := r) hK hm hr
  | some (_, .inr (.inl _)), hr => exact ⟨0, hr⟩
  | some (g, .inr (.inr (.inl v))), hr => exact zact_cont (mid := mid) (rk := rk) (pc := pc) (nx := nx) (bl := bl) (o := some (g, .inr (.inr (.inl v)))) (r := r) hK hm hr
  | some (g, .inr (.inr (.inr (.inl v)))), hr => exact zact_cont (mid := mid) (rk := rk) (pc := pc) (nx := nx) (bl := bl) (o := some (g, .inr (.inr (.inr (.inl v))))) (r := r) hK hm hr
  | some (g, .inr (.inr (.inr (.inr v)))), hr => exact zact_cont (mid := mid) (rk := rk) (pc := pc) (nx := nx) (bl := bl) (o := some (g, .inr (.inr (.inr (.inr v))))) (r := r) hK hm hr
theorem zrun_cont {lks : List (Nat × zK)} {mid mr rk : Nat} : ∀ (code : List zI) (pc to : Nat) (first : Bool) (L : zL) (st : List zV) (σ : zH) (r : zH × Int), zrun zfi zsem lks mid mr rk code pc to first L st σ = some r → ∃ n, zrun zfi (zev n) lks mid mr rk code pc to first L st σ = some r := by
  intro code
  induction code with
  | nil => intro pc to first L st σ r hr; cases hr
  | cons e tl ih =>
    obtain ⟨i, len, cut, bl⟩ := e
    intro pc to first L st σ r hr
    unfold zrun at hr ⊢
    cases h1 : Nat.blt pc to with
    | true => rw [h1] at hr; exact ih _ _ _ _ _ _ _ hr
    | false =>
      rw [h1] at hr
      simp only at hr ⊢
      cases h2 : Nat.beq pc to with
      | false => rw [h2] at hr; cases hr
      | true =>
        rw [h2] at hr
        simp only at hr ⊢
        have hK : zKc (fun t L st σ => zrun zfi zsem lks mid mr rk tl (pc + len) t false L st σ) (fun n t L st σ => zrun zfi (zev n) lks mid mr rk tl (pc + len) t false L st σ) := fun t L st σ r h => ih _ _ _ _ _ _ _ h
        have hm : ∀ n m, n ≤ m → zKle (fun t L st σ => zrun zfi (zev n) lks mid mr rk tl (pc + len) t false L st σ) (fun t L st σ => zrun zfi (zev m) lks mid mr rk tl (pc + len) t false L st σ) := fun n m hnm t L st σ r h => zrun_mono (zev_mono hnm) _ _ _ _ _ _ _ _ h
        match first, cut, hr with
        | false, some lv, hr => exact zback_cont hr
        | false, none, hr => exact zlast_cont hK hm hr
        | true, some lv, hr => exact zlast_cont hK hm hr
        | true, none, hr => exact zlast_cont hK hm hr
theorem zsem_eq (mid pc rk : Nat) (vs st : List zV) (σ : zH) : zsem mid pc rk vs st σ = zgo zsem mid pc rk vs st σ := by
  have key : ∀ r, zsem mid pc rk vs st σ = some r ↔ zgo zsem mid pc rk vs st σ = some r := by
    intro r
    constructor
    · intro h
      obtain ⟨n, hn⟩ := zsem_iff.mp h
      cases n with
      | zero => cases hn
      | succ n => exact zgo_mono (zle_sem n) _ _ _ _ _ _ _ hn
    · intro h
      unfold zgo at h
      cases hc : zcode mid pc with
      | none => rw [hc] at h; cases h
      | some q =>
        obtain ⟨own, mr, idxs, code⟩ := q
        rw [hc] at h
        simp only at h
        cases hk : zok pc idxs vs with
        | false => rw [hk] at h; cases h
        | true =>
          rw [hk] at h
          obtain ⟨n, hn⟩ := zrun_cont _ _ _ _ _ _ _ _ h
          refine zsem_iff.mpr ⟨n + 1, ?_⟩
          show zgo (zev n) mid pc rk vs st σ = some r
          unfold zgo
          rw [hc]
          simp only
          rw [hk]
          exact hn
  cases h1 : zsem mid pc rk vs st σ with
  | some r => exact ((key r).mp h1).symm
  | none =>
    cases h2 : zgo zsem mid pc rk vs st σ with
    | none => rfl
    | some r => rw [(key r).mpr h2] at h1; cases h1
end ZS
