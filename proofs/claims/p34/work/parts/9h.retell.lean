section RE1
variable {σ s0 : gb_S} {c n nb nb' nd : Nat} {P P' : pT} {ps : Nat → Nat} {De : Nat → dT} {Cf : Nat → List Nat}
/-- what the court sees doesn't hold parents -/
theorem FK_P {e d : Nat} {w : Nat → Int} (h : FK σ e (TT σ n P d) w) : FK σ e (TT σ n P' d) w := by
  unfold FK kn kr ka kc kx TT at h ⊢
  dsimp only at h ⊢
  exact h
/-- a closed estate whose shares are others -/
def chg (σ : gb_S) (n : Nat) (P P' : pT) (d : Nat) : Prop := σ 198 d = 1 ∧ smB (Rd σ n P' d) (Rd σ n P d) n = false
/-- retellKin's walk, behind i estates -/
def RP (σ s0 : gb_S) (n : Nat) (P P' : pT) (s : gb_S) (i : Nat) (x : Int) : Prop := (∀ c, c ≠ 26 → c ≠ 28 → c ≠ 29 → c ≠ 42 → c ≠ 43 → (∀ d, d < 14 → c ≠ 47 + 10 * d ∧ c ≠ 51 + 10 * d ∧ c ≠ 52 + 10 * d) → s c = s0 c) ∧ (∀ d j, d < 14 → j ≠ 7 → s (47 + 10 * d) j = σ (47 + 10 * d) j) ∧ (∀ d, i ≤ d → d < 14 → s (47 + 10 * d) = σ (47 + 10 * d) ∧ s (51 + 10 * d) = σ (51 + 10 * d) ∧ s (52 + 10 * d) = σ (52 + 10 * d)) ∧ (∀ d, d < i → (chg σ n P P' d → s (47 + 10 * d) 7 = σ (47 + 10 * d) 7 + 1) ∧ (¬ chg σ n P P' d → s (47 + 10 * d) 7 = σ (47 + 10 * d) 7)) ∧ (∀ d, d < i → σ 198 d = 1 → cm s (47 + 10 * d + 3) (Rd σ n P' d)) ∧ (∀ d, d < i → chg σ n P P' d → x ≤ σ (47 + 10 * d) 6) ∧ (x = 134 ∨ ∃ d, d < i ∧ chg σ n P P' d ∧ x = σ (47 + 10 * d) 6) ∧ (0 ≤ x ∧ x ≤ 134)
theorem c121l (hi : IV2 c σ n nb nd P ps De Cf) (hH : ∀ d, d < n → KH (TT σ n P' d) ps) (hS' : ∀ d, d < n → SR n (Rd σ n P' d)) (hKC : ∀ s : gb_S, (∀ c, 16 ≤ c ∧ c ≤ 18 → s c = s0 c) → ∀ d, d < n → KC s 15 (TT σ n P' d)) (hs0 : ∀ c, ((2 ≤ c ∧ c ≤ 5) ∨ (47 ≤ c ∧ c ≤ 186 ∧ ¬ scr c)) → s0 c = σ c) : ∀ (m f : Nat) (s : gb_S) (x : Int), m ≤ 14 → m < f → RP σ s0 n P P' s (14 - m) x → ∃ s' x', fx_121_18 f x ((14 - m : Nat) : Int) s = gc (fx_49 x' s') (fun r2 s3 => some (.inl r2, s3)) ∧ RP σ s0 n P P' s' 14 x' := by
  have hn := hi.1.1
  obtain ⟨l1, l2, l3, l4, l5, l6, l7, l8, l9, l10⟩ := hi.2.2.2.2.2.2.2
  intro m
  induction m with
  | zero =>
    intro f s x _ hf hp
    obtain ⟨f, rfl⟩ : ∃ q, f = q + 1 := ⟨f - 1, by omega⟩
    rw [Nat.sub_zero] at hp
    refine ⟨s, x, ?_, hp⟩
    rw [fx_121_18, gq_R (by omega) (by omega), if_neg (by omega)]
  | succ m ih =>
    intro f s x hm hf hp
    obtain ⟨f, rfl⟩ : ∃ q, f = q + 1 := ⟨f - 1, by omega⟩
    have ih := fun s x => ih f s x (by omega) (by omega)
    generalize hii : 14 - (m + 1) = i at hp ⊢
    have hi2 : 14 - m = i + 1 := by omega
    rw [hi2] at ih
    obtain ⟨A, B, C, D, E, F, G, X⟩ := hp
    obtain ⟨e1, e2, e3, e4, e5, e6, e7, e8, e9, e10⟩ := hi.2.2.2.2.2.2.1 i (by omega)
    have h4 : s (47 + 10 * i) 4 = σ 198 i := by rw [B i 4 (by omega) (by omega), e5]
    have hCi := C i (Nat.le_refl _) (by omega)
    rw [fx_121_18, gq_R (by omega) (by omega), if_pos (by omega), gq_ix (by omega) (by omega), Int.toNat_natCast, h4, gq_R (by omega) (by omega), show ((i : Nat) : Int) + 1 = ((i + 1 : Nat) : Int) by omega]
    by_cases h0 : σ 198 i = 0
    · rw [if_pos h0]
      have hno : ¬ chg σ n P P' i := fun h => by have := h.1; omega
      refine ih s x ⟨A, B, fun d h1 h2 => C d (by omega) h2, fun d hd => ?_, fun d hd h1 => ?_, fun d hd h1 => ?_, ?_, X⟩
      · by_cases hdi : d = i
        · rw [hdi]
          exact ⟨fun h => absurd h hno, fun _ => by rw [hCi.1]⟩
        · exact D d (by omega)
      · by_cases hdi : d = i
        · rw [hdi] at h1; omega
        · exact E d (by omega) h1
      · by_cases hdi : d = i
        · rw [hdi] at h1; exact absurd h1 hno
        · exact F d (by omega) h1
      · rcases G with G | ⟨d, g1, g2, g3⟩
        · exact Or.inl G
        · exact Or.inr ⟨d, by omega, g2, g3⟩
    · have h1 : σ 198 i = 1 := by omega
      have hin : i < n := Nat.lt_of_not_le (fun hle => h0 (e9 hle).1)
      obtain ⟨q1, q2, q3, q4, ⟨k, k1, k2, k3, k4⟩, q6⟩ := e10 () h1
      have l31 := l3.1
      have hfk : FK s (47 + 10 * i) (TT σ n P' i) (ww σ i) := FK_cg (σ := σ) (fun c hc => by
        by_cases hce : c = 47 + 10 * i
        · rw [hce]; exact hCi.1
        · rw [A c (by omega) (by omega) (by omega) (by omega) (by omega) (fun d hd => by omega)]
          exact hs0 c (by unfold scr; omega)) (FK_P (IV_FK hi hin q1))
      obtain ⟨s', e', c1, c2, c3, c4⟩ := c122 (P := P) (P' := P') hin hn (hH i hin) (hKC s (fun c hc => A c (by omega) (by omega) (by omega) (by omega) (by omega) (fun d hd => by omega)) i hin) hfk (cm_cong (show s (47 + 10 * i + 3 + 1) = σ (47 + 10 * i + 3 + 1) from by
        rw [show 47 + 10 * i + 3 + 1 = 51 + 10 * i by omega]; exact hCi.2.1) (by
        rw [show 47 + 10 * i + 3 + 2 = 52 + 10 * i by omega]; exact hCi.2.2) q6) (Rd_SR hi.1 hin) (hS' i hin)
      have A' : ∀ c, c ≠ 26 → c ≠ 28 → c ≠ 29 → c ≠ 42 → c ≠ 43 → (∀ d, d < 14 → c ≠ 47 + 10 * d ∧ c ≠ 51 + 10 * d ∧ c ≠ 52 + 10 * d) → s' c = s0 c := fun c a1 a2 a3 a4 a5 a6 => by
        have := a6 i (by omega)
        rw [c4 c a1 a2 a3 a4 a5 this.1 this.2.1 this.2.2, A c a1 a2 a3 a4 a5 a6]
      have keep : ∀ d, d < 14 → d ≠ i → s' (47 + 10 * d) = s (47 + 10 * d) ∧ s' (51 + 10 * d) = s (51 + 10 * d) ∧ s' (52 + 10 * d) = s (52 + 10 * d) := fun d hd hdi => ⟨c4 _ (by omega) (by omega) (by omega) (by omega) (by omega) (by omega) (by omega) (by omega), c4 _ (by omega) (by omega) (by omega) (by omega) (by omega) (by omega) (by omega) (by omega), c4 _ (by omega) (by omega) (by omega) (by omega) (by omega) (by omega) (by omega) (by omega)⟩
      have B' : ∀ d j, d < 14 → j ≠ 7 → s' (47 + 10 * d) j = σ (47 + 10 * d) j := fun d j hd hj => by
        by_cases hdi : d = i
        · rw [hdi, c3 j hj]; exact B i j (by omega) hj
        · rw [(keep d hd hdi).1]; exact B d j hd hj
      have C' : ∀ d, i + 1 ≤ d → d < 14 → s' (47 + 10 * d) = σ (47 + 10 * d) ∧ s' (51 + 10 * d) = σ (51 + 10 * d) ∧ s' (52 + 10 * d) = σ (52 + 10 * d) := fun d h1 h2 => by
        have := keep d h2 (by omega)
        rw [this.1, this.2.1, this.2.2]
        exact C d (by omega) h2
      have E' : ∀ d, d < i + 1 → σ 198 d = 1 → cm s' (47 + 10 * d + 3) (Rd σ n P' d) := fun d hd h1 => by
        by_cases hdi : d = i
        · rw [hdi]; exact c1
        · have := keep d (by omega) hdi
          exact cm_cong (by rw [show 47 + 10 * d + 3 + 1 = 51 + 10 * d by omega]; exact this.2.1) (by rw [show 47 + 10 * d + 3 + 2 = 52 + 10 * d by omega]; exact this.2.2) (E d (by omega) h1)
      have D' : ∀ d, d < i + 1 → (chg σ n P P' d → s' (47 + 10 * d) 7 = σ (47 + 10 * d) 7 + 1) ∧ (¬ chg σ n P P' d → s' (47 + 10 * d) 7 = σ (47 + 10 * d) 7) := fun d hd => by
        by_cases hdi : d = i
        · rw [hdi, c2, hCi.1]
          refine ⟨fun h => by rw [h.2, Bool.not_false, ibT], fun h => ?_⟩
          have : smB (Rd σ n P' i) (Rd σ n P i) n = true := by
            rw [← Bool.not_eq_false]
            exact fun q => h ⟨h1, q⟩
          rw [this, Bool.not_true, ibF, Int.add_zero]
        · rw [(keep d (by omega) hdi).1]; exact D d (by omega)
      have h6 : s' (47 + 10 * i) 6 = (k : Int) := by rw [B' i 6 (by omega) (by omega), k2]
      rw [if_neg h0, e', gc_v, gq_R (ibR _).1 (ibR _).2]
      cases hsm : smB (Rd σ n P' i) (Rd σ n P i) n with
      | true =>
        have hno : ¬ chg σ n P P' i := fun h => by have h2 := h.2; rw [hsm] at h2; exact absurd h2 (by decide)
        rw [Bool.not_true, ibF, if_pos rfl]
        refine ih s' x ⟨A', B', C', D', E', fun d hd h => ?_, ?_, X⟩
        · by_cases hdi : d = i
          · rw [hdi] at h; exact absurd h hno
          · exact F d (by omega) h
        · rcases G with G | ⟨d, g1, g2, g3⟩
          · exact Or.inl G
          · exact Or.inr ⟨d, by omega, g2, g3⟩
      | false =>
        have hyes : chg σ n P P' i := ⟨h1, hsm⟩
        rw [Bool.not_false, ibT, if_neg (by decide), gq_R (by omega) (by omega), h6, gq_R (by omega) (by omega)]
        refine ih s' (min x (k : Int)) ⟨A', B', C', D', E', fun d hd h => ?_, ?_, by omega⟩
        · by_cases hdi : d = i
          · rw [hdi, k2]; omega
          · have := F d (by omega) h; omega
        · by_cases hxk : x ≤ (k : Int)
          · rcases G with G | ⟨d, g1, g2, g3⟩
            · omega
            · exact Or.inr ⟨d, by omega, g2, by omega⟩
          · exact Or.inr ⟨i, by omega, hyes, by rw [k2]; omega⟩
end RE1
