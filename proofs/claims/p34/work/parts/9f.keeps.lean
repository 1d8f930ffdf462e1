section KE1
variable {σ σ' : gb_S} {c n nb nd : Nat} {P : pT} {ps : Nat → Nat} {De : Nat → dT} {Cf : Nat → List Nat} {R R' : Nat → Rat}
/-- a row of shares is kept -/
theorem r170r {d : Nat} {k2 : Int → gb_S → Option gb_P} (hn : n ≤ 14) (hd : d < 14) : ∀ (m f : Nat) (σ : gb_S), m ≤ n → m < f → σ 187 3 = (n : Int) → cs σ n R → (∀ p, p < n - m → σ 220 (14 * d + p) = (R p).num ∧ σ 221 (14 * d + p) = ((R p).den : Int)) → ∃ s, fx_170_26 f k2 (d : Int) ((n - m : Nat) : Int) σ = k2 ((d : Int) + 1) s ∧ kpt s n d R ∧ (∀ j, (j < 14 * d ∨ 14 * d + 14 ≤ j) → s 220 j = σ 220 j ∧ s 221 j = σ 221 j) ∧ ∀ c, c ≠ 220 → c ≠ 221 → s c = σ c := by
  intro m
  induction m with
  | zero =>
    intro f σ _ hf h3 hc hk
    obtain ⟨f, rfl⟩ : ∃ q, f = q + 1 := ⟨f - 1, by omega⟩
    refine ⟨σ, ?_, hk, fun _ _ => ⟨rfl, rfl⟩, fun _ _ _ => rfl⟩
    rw [fx_170_26, gq_R (by omega) (by omega), h3, gq_R (by omega) (by omega), if_neg (by omega)]
  | succ m ih =>
    intro f σ hm hf h3 hc hk
    obtain ⟨f, rfl⟩ : ∃ q, f = q + 1 := ⟨f - 1, by omega⟩
    have ih := fun s => ih f s (by omega) (by omega)
    generalize hi : n - (m + 1) = i at hk ⊢
    have hi2 : n - m = i + 1 := by omega
    rw [hi2] at ih
    have hci := hc i (by omega)
    have e1 : (gb_up σ 220 (14 * d + i) (σ 216 i)) 217 i = σ 217 i := by rw [up_ne _ _ _ _ (by omega)]
    obtain ⟨s, e, q1, q2, q3⟩ := ih (gb_up (gb_up σ 220 (14 * d + i) (σ 216 i)) 221 (14 * d + i) (σ 217 i)) (by rw [up_ne _ _ _ _ (by omega), up_ne _ _ _ _ (by omega)]; exact h3) (by unfold cs; rw [up_ne _ _ _ _ (by omega), up_ne _ _ _ _ (by omega), up_ne _ _ _ _ (by omega), up_ne _ _ _ _ (by omega)]; exact hc) (fun p hp => by
      by_cases hpi : p = i
      · rw [hpi, up_ne _ _ _ _ (by omega : (220 : Nat) ≠ 221), up_eq, up_eq]; exact hci
      · rw [up_ne _ _ _ _ (by omega : (220 : Nat) ≠ 221), up_nj _ _ _ _ (by omega), up_nj _ _ _ _ (by omega), up_ne _ _ _ _ (by omega : (221 : Nat) ≠ 220)]; exact hk p (by omega))
    refine ⟨s, ?_, q1, fun j hj => ?_, fun c h1 h2 => by rw [q3 c h1 h2, up_ne _ _ _ _ h2, up_ne _ _ _ _ h1]⟩
    · rw [fx_170_26, gq_R (by omega) (by omega), h3, gq_R (by omega) (by omega), if_pos (by omega), gq_ix (by omega) (by omega), gq_ix (by omega) (by omega), Int.toNat_natCast, show ((14 * (d : Int)) + (i : Int)).toNat = 14 * d + i by omega, e1, show ((i : Nat) : Int) + 1 = ((i + 1 : Nat) : Int) by omega, e]
    · have := q2 j hj
      rw [this.1, this.2, up_ne _ _ _ _ (by omega : (220 : Nat) ≠ 221), up_nj _ _ _ _ (by omega), up_nj _ _ _ _ (by omega), up_ne _ _ _ _ (by omega : (221 : Nat) ≠ 220)]
      exact ⟨rfl, rfl⟩
/-- keeps -/
theorem r170 (hb0 : RB σ n nb P ps) : ∀ (m f : Nat) (s : gb_S), m ≤ n → m < f → SC σ s → ST s n P → (∀ d, d < n - m → σ 198 d = 1 → kpt s n d (Rd σ n P d)) → ∃ s', fx_170_2 f ((n - m : Nat) : Int) s = some (.inl 0, s') ∧ SC σ s' ∧ ST s' n P ∧ s' 187 43 = s 187 43 ∧ s' 224 = s 224 ∧ s' 222 = s 222 ∧ s' 223 = s 223 ∧ (∀ d, d < n → σ 198 d = 1 → kpt s' n d (Rd σ n P d)) := by
  have hn := hb0.1
  intro m
  induction m with
  | zero =>
    intro f s _ hf sc st hk
    obtain ⟨f, rfl⟩ : ∃ q, f = q + 1 := ⟨f - 1, by omega⟩
    have h3 : s 187 3 = (n : Int) := by rw [sc.2 3 (by omega) (by omega)]; exact hb0.2.1
    refine ⟨s, ?_, sc, st, rfl, rfl, rfl, rfl, hk⟩
    rw [fx_170_2, gq_R (by omega) (by omega), h3, gq_R (by omega) (by omega), if_neg (by omega)]
  | succ m ih =>
    intro f s hm hf sc st hk
    obtain ⟨f, rfl⟩ : ∃ q, f = q + 1 := ⟨f - 1, by omega⟩
    have ih := fun s => ih f s (by omega) (by omega)
    generalize hi : n - (m + 1) = i at hk ⊢
    have hi2 : n - m = i + 1 := by omega
    rw [hi2] at ih
    have h3 : s 187 3 = (n : Int) := by rw [sc.2 3 (by omega) (by omega)]; exact hb0.2.1
    have e198 : s 198 = σ 198 := sa sc (c := 198) (by unfold scr; omega) (by omega)
    have h198 := (hb0.2.2.2.2.2.2.2.2.2.1 i (by omega)).1
    rw [fx_170_2, gq_R (by omega) (by omega), h3, gq_R (by omega) (by omega), if_pos (by omega), gq_ix (by omega) (by omega), Int.toNat_natCast, e198, gq_R (by omega) (by omega)]
    by_cases h0 : σ 198 i = 0
    · rw [if_pos h0, show ((i : Nat) : Int) + 1 = ((i + 1 : Nat) : Int) by omega]
      exact ih s sc st (fun d hd h1 => by
        by_cases hdi : d = i
        · rw [hdi, h0] at h1; exact absurd h1 (by decide)
        · exact hk d (by omega) h1)
    · have hbs : RB s n nb P ps := RB_cong (fun j h => sc.2 j (by omega) (by omega)) (fun c h => sa sc (c := c) (by unfold scr; omega) (by omega)) hb0
      obtain ⟨s1, e1, c1, j1, z1, k1, f1⟩ := gR168 hbs st (show i < n by omega)
      rw [SC_Rd sc] at c1
      have hex := r170r (d := i) (k2 := fx_170_2 f) hn (by omega) n gFU s1 (Nat.le_refl _) (by unfold gFU; omega) (by rw [j1 3 (by omega)]; exact h3) c1 (fun p hp => by omega)
      rw [Nat.sub_self] at hex
      obtain ⟨s2, e2, q1, q2, q3⟩ := hex
      have e2' : fx_170_26 gFU (fx_170_2 f) (i : Int) 0 s1 = fx_170_2 f ((i : Int) + 1) s2 := e2
      have sc1 : SC s s1 := ⟨fun c h1 h2 => f1 c h2 (by unfold scr at h1; omega), fun j h1 _ => j1 j h1⟩
      have sc2 : SC s1 s2 := ⟨fun c h1 h2 => q3 c (by unfold scr at h1; omega) (by unfold scr at h1; omega), fun j _ _ => by rw [q3 187 (by omega) (by omega)]⟩
      obtain ⟨s', e', r1, r2, r3, r4, r5, r6, r7⟩ := ih s2 (SC_trans sc (SC_trans sc1 sc2)) (ST_cong (by rw [q3 187 (by omega) (by omega)]) (q3 212 (by omega) (by omega)) (q3 213 (by omega) (by omega)) (Or.inl ⟨z1, k1⟩)) (fun d hd h1 => by
        by_cases hdi : d = i
        · rw [hdi]; exact q1
        · have := hk d (by omega) h1
          intro p hp
          have h2 := q2 (14 * d + p) (by omega)
          rw [h2.1, h2.2, f1 220 (by omega) (by omega), f1 221 (by omega) (by omega)]
          exact this p hp)
      refine ⟨s', ?_, r1, r2, by rw [r3, q3 187 (by omega) (by omega), j1 43 (by omega)], by rw [r4, q3 224 (by omega) (by omega), f1 224 (by omega) (by omega)], by rw [r5, q3 222 (by omega) (by omega), f1 222 (by omega) (by omega)], by rw [r6, q3 223 (by omega) (by omega), f1 223 (by omega) (by omega)], r7⟩
      rw [if_neg h0, e1, gc_v, e2', show ((i : Nat) : Int) + 1 = ((i + 1 : Nat) : Int) by omega, e']
/-- reopens: K are the shares kept -/
theorem r172 {K : Nat → Nat → Rat} (hb0 : RB σ n nb P ps) (hK : ∀ d, d < n → SR n (K d)) (h203 : ∀ d, d < n → 0 ≤ σ 203 d ∧ σ 203 d ≤ 2000) : ∀ (m f : Nat) (s : gb_S), m ≤ n → m < f → (∀ c, c ≠ 187 → c ≠ 203 → (c < 211 ∨ 219 < c) → s c = σ c) → (∀ j, j ≠ 29 → s 187 j = σ 187 j) → ST s n P → (∀ d, d < n → σ 198 d = 1 → kpt σ n d (K d)) → (∀ d, (14 ≤ d ∨ n - m ≤ d) → s 203 d = σ 203 d) → (∀ d, d < n - m → s 203 d = σ 203 d + (if σ 198 d = 1 ∧ smB (Rd σ n P d) (K d) n = false then 1 else 0)) → ∃ s', fx_172_2 f ((n - m : Nat) : Int) s = some (.inl 0, s') ∧ (∀ c, c ≠ 187 → c ≠ 203 → (c < 211 ∨ 219 < c) → s' c = σ c) ∧ (∀ j, j ≠ 29 → s' 187 j = σ 187 j) ∧ ST s' n P ∧ (∀ d, n ≤ d → s' 203 d = σ 203 d) ∧ (∀ d, d < n → s' 203 d = σ 203 d + (if σ 198 d = 1 ∧ smB (Rd σ n P d) (K d) n = false then 1 else 0)) := by
  have hn := hb0.1
  intro m
  induction m with
  | zero =>
    intro f s _ hf fs js st hk ha hbb
    obtain ⟨f, rfl⟩ : ∃ q, f = q + 1 := ⟨f - 1, by omega⟩
    have h3 : s 187 3 = (n : Int) := by rw [js 3 (by omega)]; exact hb0.2.1
    refine ⟨s, ?_, fs, js, st, fun d hd => ha d (by omega), fun d hd => hbb d (by omega)⟩
    rw [fx_172_2, gq_R (by omega) (by omega), h3, gq_R (by omega) (by omega), if_neg (by omega)]
  | succ m ih =>
    intro f s hm hf fs js st hk ha hbb
    obtain ⟨f, rfl⟩ : ∃ q, f = q + 1 := ⟨f - 1, by omega⟩
    have ih := fun s => ih f s (by omega) (by omega)
    generalize hi : n - (m + 1) = i at ha hbb ⊢
    have hi2 : n - m = i + 1 := by omega
    rw [hi2] at ih
    have h3 : s 187 3 = (n : Int) := by rw [js 3 (by omega)]; exact hb0.2.1
    have h198 := (hb0.2.2.2.2.2.2.2.2.2.1 i (by omega)).1
    have e203 := ha i (Or.inr (Nat.le_refl _))
    -- going on from a world with slot i of 203 written
    have go : ∀ (s1 : gb_S) (z : Int), (∀ c, c ≠ 187 → c ≠ 203 → (c < 211 ∨ 219 < c) → s1 c = σ c) → (∀ j, j ≠ 29 → s1 187 j = σ 187 j) → ST s1 n P → s1 203 = s 203 → z = σ 203 i + (if σ 198 i = 1 ∧ smB (Rd σ n P i) (K i) n = false then 1 else 0) → ∃ s', fx_172_2 f ((i : Int) + 1) (gb_up s1 203 i z) = some (.inl 0, s') ∧ (∀ c, c ≠ 187 → c ≠ 203 → (c < 211 ∨ 219 < c) → s' c = σ c) ∧ (∀ j, j ≠ 29 → s' 187 j = σ 187 j) ∧ ST s' n P ∧ (∀ d, n ≤ d → s' 203 d = σ 203 d) ∧ (∀ d, d < n → s' 203 d = σ 203 d + (if σ 198 d = 1 ∧ smB (Rd σ n P d) (K d) n = false then 1 else 0)) := by
      intro s1 z g1 g2 g3 g4 g5
      have := ih (gb_up s1 203 i z) (fun c h1 h2 h4 => by rw [up_ne _ _ _ _ h2]; exact g1 c h1 h2 h4) (fun j hj => by rw [up_ne _ _ _ _ (by omega)]; exact g2 j hj) (ST_cong (by rw [up_ne _ _ _ _ (by omega)]) (up_ne _ _ _ _ (by omega)) (up_ne _ _ _ _ (by omega)) g3) hk (fun d hd => by rw [up_nj _ _ _ _ (by omega), g4]; exact ha d (by omega)) (fun d hd => by
        by_cases hdi : d = i
        · rw [hdi, up_eq]; exact g5
        · rw [up_nj _ _ _ _ hdi, g4]; exact hbb d (by omega))
      exact this
    rw [fx_172_2, gq_R (by omega) (by omega), h3, gq_R (by omega) (by omega), if_pos (by omega), gq_ix (by omega) (by omega), Int.toNat_natCast, fs 198 (by omega) (by omega) (by omega), gq_R (by omega) (by omega)]
    by_cases h0 : σ 198 i = 0
    · rw [if_pos h0]
      exact go s _ fs js st rfl (by rw [e203, if_neg (fun h => by omega)])
    · have h1 : σ 198 i = 1 := by omega
      have hbs : RB s n nb P ps := RB_cong (fun j h => js j (by omega)) (fun c h => fs c (by omega) (by omega) (by omega)) hb0
      have hRs : Rd s n P i = Rd σ n P i := Rd_cong (fun c h => fs c (by omega) (by omega) (by omega)) n P i
      obtain ⟨s1, e1, j1, z1, k1, f1⟩ := r171 hbs st (show i < n by omega) (K := K i) (by unfold kpt; rw [fs 220 (by omega) (by omega) (by omega), fs 221 (by omega) (by omega) (by omega)]; exact hk i (by omega) h1) (hK i (by omega))
      rw [hRs] at e1
      have g1 : ∀ c, c ≠ 187 → c ≠ 203 → (c < 211 ∨ 219 < c) → s1 c = σ c := fun c h1 h2 h4 => by rw [f1 c h1 h4]; exact fs c h1 h2 h4
      have g2 : ∀ j, j ≠ 29 → s1 187 j = σ 187 j := fun j hj => by rw [j1 j hj]; exact js j hj
      rw [if_neg h0, e1, gc_v, gq_R (ibR _).1 (ibR _).2, e203]
      cases hs : smB (Rd σ n P i) (K i) n with
      | false =>
        rw [Bool.not_false, ibT, if_neg (by decide)]
        exact go s1 _ g1 g2 (Or.inl ⟨z1, k1⟩) (f1 203 (by omega) (by omega)) (by rw [if_pos ⟨h1, hs⟩])
      | true =>
        rw [Bool.not_true, ibF, if_pos rfl]
        exact go s1 _ g1 g2 (Or.inl ⟨z1, k1⟩) (f1 203 (by omega) (by omega)) (by rw [if_neg (fun h => by rw [hs] at h; exact absurd h.2 (by decide))])
end KE1
