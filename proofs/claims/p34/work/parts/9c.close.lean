section CO1
variable {σ σ' : gb_S} {c n nb nd : Nat} {P : pT} {ps : Nat → Nat} {De : Nat → dT} {Cf : Nat → List Nat}
theorem DC_cl {d : Nat} (hd : DC σ nd De) : DC (gb_up (en48 σ nd (d : Int) (-1) 0 60) 35 nd 1) (nd + 1) (snD De nd (2, d, 0, 0, 60)) := by
  refine ⟨?_, fun k hk => ?_⟩
  · rw [up_ne _ _ _ _ (by omega)]
    unfold en48
    rw [up_eq]; omega
  · rw [up_ne _ _ _ _ (by omega : (31 : Nat) ≠ 35), up_ne _ _ _ _ (by omega : (32 : Nat) ≠ 35), up_ne _ _ _ _ (by omega : (33 : Nat) ≠ 35), up_ne _ _ _ _ (by omega : (34 : Nat) ≠ 35), en48_1, en48_2, en48_3, en48_4]
    by_cases hkn : k = nd
    · rw [hkn, snD_eq, if_pos rfl, if_pos rfl, if_pos rfl, if_pos rfl, up_eq]
      exact ⟨rfl, rfl, rfl, rfl, fun h => absurd (show (2 : Nat) = 0 from h) (by decide), fun h => absurd (show (2 : Nat) = 1 from h) (by decide)⟩
    · rw [snD_ne hkn, if_neg hkn, if_neg hkn, if_neg hkn, if_neg hkn, up_nj _ _ _ _ hkn, en48_o _ _ _ _ _ (by omega)]
      exact hd.2 k (by omega)
/-- the reference notes who lives -/
theorem r156 {d : Nat} (hn : n ≤ 14) (hd : d < 14) : ∀ (m f : Nat) (σ : gb_S), m ≤ n → m < f → σ 187 3 = (n : Int) → (∀ p, p < n → -2147483648 ≤ σ 189 p ∧ σ 189 p ≤ 2147483647) → (∀ p, bt (σ 199 d) p = (decide (p < n - m) && decide (σ 189 p = -1))) → ∃ s', fx_156_53 f (d : Int) ((n - m : Nat) : Int) σ = gc (fx_180 2 (d : Int) (-1) 0 60 (gb_up (gb_up s' 200 d (n : Int)) 198 d 1)) (fun _ s5 => gc (fx_169 (d : Int) s5) (fun r6 s7 => some (.inl r6, s7))) ∧ (∀ p, bt (s' 199 d) p = (decide (p < n) && decide (σ 189 p = -1))) ∧ (∀ j, j ≠ d → s' 199 j = σ 199 j) ∧ ∀ c, c ≠ 199 → s' c = σ c := by
  intro m
  induction m with
  | zero =>
    intro f σ _ hf h3 hr hb
    obtain ⟨f, rfl⟩ : ∃ q, f = q + 1 := ⟨f - 1, by omega⟩
    refine ⟨σ, ?_, hb, fun _ _ => rfl, fun _ _ => rfl⟩
    rw [fx_156_53, gq_R (by omega) (by omega), h3, gq_R (by omega) (by omega), if_neg (by omega), gq_ix (by omega) (by omega), Int.toNat_natCast]
  | succ m ih =>
    intro f σ hm hf h3 hr hb
    obtain ⟨f, rfl⟩ : ∃ q, f = q + 1 := ⟨f - 1, by omega⟩
    have ih := fun z => ih f (gb_up σ 199 d z) (by omega) (by omega) (by rw [up_ne _ _ _ _ (by omega)]; exact h3) (by rw [up_ne _ _ _ _ (by omega)]; exact hr)
    generalize hi : n - (m + 1) = i at hb ⊢
    have hi2 : n - m = i + 1 := by omega
    rw [hi2] at ih
    have hri := hr i (by omega)
    have hlt : ∀ p, decide (p < i + 1) = (decide (p < i) || decide (p = i)) := fun p => by
      rw [← Bool.decide_or]
      exact decide_eq_decide.mpr (by omega)
    have fin : ∀ z, (∃ s', fx_156_53 f (d : Int) ((i + 1 : Nat) : Int) (gb_up σ 199 d z) = gc (fx_180 2 (d : Int) (-1) 0 60 (gb_up (gb_up s' 200 d (n : Int)) 198 d 1)) (fun _ s5 => gc (fx_169 (d : Int) s5) (fun r6 s7 => some (.inl r6, s7))) ∧ (∀ p, bt (s' 199 d) p = (decide (p < n) && decide ((gb_up σ 199 d z) 189 p = -1))) ∧ (∀ j, j ≠ d → s' 199 j = (gb_up σ 199 d z) 199 j) ∧ ∀ c, c ≠ 199 → s' c = (gb_up σ 199 d z) c) → ∃ s', fx_156_53 f (d : Int) ((i + 1 : Nat) : Int) (gb_up σ 199 d z) = gc (fx_180 2 (d : Int) (-1) 0 60 (gb_up (gb_up s' 200 d (n : Int)) 198 d 1)) (fun _ s5 => gc (fx_169 (d : Int) s5) (fun r6 s7 => some (.inl r6, s7))) ∧ (∀ p, bt (s' 199 d) p = (decide (p < n) && decide (σ 189 p = -1))) ∧ (∀ j, j ≠ d → s' 199 j = σ 199 j) ∧ ∀ c, c ≠ 199 → s' c = σ c := by
      rintro z ⟨s', q1, q2, q3, q4⟩
      exact ⟨s', q1, fun p => by rw [q2 p, up_ne _ _ _ _ (by omega)], fun j hj => by rw [q3 j hj, up_nj _ _ _ _ hj], fun c hc => by rw [q4 c hc, up_ne _ _ _ _ hc]⟩
    rw [fx_156_53, gq_R (by omega) (by omega), h3, gq_R (by omega) (by omega), if_pos (by omega), gq_ix (by omega) (by omega), gq_ix (by omega) (by omega), Int.toNat_natCast, Int.toNat_natCast, gq_R hri.1 hri.2, show ((i : Nat) : Int) + 1 = ((i + 1 : Nat) : Int) by omega]
    by_cases ha : σ 189 i = -1
    · rw [if_pos ha]
      refine fin _ (ih _ (fun p => ?_))
      rw [up_eq, up_ne _ _ _ _ (by omega), bt_or, bt_shl (by omega), hb p, hlt]
      by_cases hp : p = i
      · rw [hp, ha]; simp
      · rw [decide_eq_false hp, Bool.or_false, Bool.or_false]
    · rw [if_neg ha]
      refine fin _ (ih _ (fun p => ?_))
      rw [up_eq, up_ne _ _ _ _ (by omega), bt_or, bt_zero, Bool.or_false, hb p, hlt]
      by_cases hp : p = i
      · rw [hp, decide_eq_false ha, Bool.and_false, Bool.and_false]
      · rw [decide_eq_false hp, Bool.or_false]
/-- the reference's way through a closing's conditions -/
theorem r156c {x : Int} (h1 : -2147483648 ≤ x ∧ x ≤ 2147483647) (hb : RB σ n nb P ps) : ∀ b1 b2 : Bool, b1 = decide (0 ≤ x ∧ x < (n : Int)) → b2 = (b1 && (!decide (σ 189 x.toNat = -1) && decide (σ 198 x.toNat = 0))) → fx_156 x σ = fx_156_36 x (ib b2) (ib b1) σ := by
  intro b1 b2 hb1 hb2
  have hn := hb.1
  unfold fx_156
  rw [i131 h1 hn hb.2.1, gc_v, ← hb1, gq_R (ibR _).1 (ibR _).2]
  cases b1 with
  | false => rw [ibF, if_pos rfl, hb2, Bool.false_and, ibF]
  | true =>
    rw [eq_comm, decide_eq_true_eq] at hb1
    have h9 := (hb.2.2.2.2.2.2.2.2.1 x.toNat (by omega)).2
    have h10 := (hb.2.2.2.2.2.2.2.2.2.1 x.toNat (by omega)).1
    rw [Bool.true_and] at hb2
    rw [ibT, if_neg (by decide), gq_ix (by omega) (by omega), gq_R (by omega) (by omega)]
    by_cases a1 : σ 189 x.toNat = -1
    · rw [decide_eq_true a1, Bool.not_true, Bool.false_and] at hb2
      rw [if_pos a1, hb2, ibF]
    · rw [decide_eq_false a1, Bool.not_false, Bool.true_and] at hb2
      rw [if_neg a1, gq_R (by omega) (by omega)]
      by_cases a2 : σ 198 x.toNat = 0
      · rw [decide_eq_true a2] at hb2
        rw [if_pos a2, hb2, ibT]
      · rw [decide_eq_false a2] at hb2
        rw [if_neg a2, hb2, ibF]
theorem r156f {x t : Int} {b1 b2 : Bool} (h : (b1 && b2) = false) (ht : (if b1 = true then (if b2 = true then (0 : Int) else 2) else 1) = t) (hst : ST σ n P) (e : fx_156 x σ = fx_156_36 x (ib b2) (ib b1) σ) : RQ (fx_156 x) t 0 n P σ := by
  refine ⟨gb_up σ 187 43 t, ?_, up43_SC t, up43_ST t hst, up_eq _ _ _ _, up_ne _ _ _ _ (by omega)⟩
  rw [e]
  unfold fx_156_36
  rw [i128, gc_v, h, ht]
  exact (gq_R (by decide) (by decide)).trans (if_pos rfl)
end CO1
