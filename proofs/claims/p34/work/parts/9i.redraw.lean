section RW1
variable {σ s0 : gb_S} {c n nb nb' nd : Nat} {P P' : pT} {ps : Nat → Nat} {De : Nat → dT} {Cf : Nat → List Nat}
/-- retellKin's drawing, behind its walk -/
theorem c121d (hi : IV2 c σ n nb nd P ps De Cf) (hS' : ∀ d, d < n → SR n (Rd σ n P' d)) (hs0 : ∀ c, ((2 ≤ c ∧ c ≤ 5) ∨ (30 ≤ c ∧ c ≤ 37) ∨ (47 ≤ c ∧ c ≤ 186 ∧ ¬ scr c)) → s0 c = σ c) {s : gb_S} {x : Int} (hp : RP σ s0 n P P' s 14 x) : ∃ s', fx_49 x s = some (.inl ((ct (fun u => !decide (ow n (Rd σ n P') Cf De nd u = σ 37 u)) 60 : Nat) : Int), s') ∧ (∀ u, u < 60 → s' 37 u = ow n (Rd σ n P') Cf De nd u) ∧ (∀ k, k < nd → (De k).1 = 2 → ∀ u, u < 60 → s' (56 + 10 * (De k).2.1) u = ow n (Rd σ n P') Cf De k u) ∧ ∀ c, c ≠ 37 → c ≠ 38 → c ≠ 39 → c ≠ 40 → (∀ k, k < nd → (De k).1 = 2 → c ≠ 56 + 10 * (De k).2.1) → s' c = s c := by
  have hn := hi.1.1
  obtain ⟨A, B, C, D, E, F, G, X⟩ := hp
  have hE0 := hi.2.2.2.2.2.2.1
  obtain ⟨l1, l2, l3, l4, l5, l6, l7, l8, l9, l10⟩ := hi.2.2.2.2.2.2.2
  have l31 := l3.1
  have hCV : CV n Cf := fun d hd => by have := (hE0 d (by omega)).2.2.2.1; exact ⟨this.2.2.1, this.2.2.2.1⟩
  have As : ∀ c, ((30 ≤ c ∧ c ≤ 37) ∨ (47 ≤ c ∧ c ≤ 186 ∧ ¬ scr c ∧ c % 10 ≠ 7 ∧ c % 10 ≠ 1 ∧ c % 10 ≠ 2)) → s c = σ c := fun c hc => by
    rw [A c (by omega) (by omega) (by omega) (by omega) (by omega) (fun d hd => by omega)]
    rcases hc with h | h
    · exact hs0 c (Or.inr (Or.inl h))
    · exact hs0 c (Or.inr (Or.inr ⟨h.1, h.2.1, h.2.2.1⟩))
  have s37 : s 37 = σ 37 := As 37 (by omega)
  have hown := ow_b (Rf := Rd σ n P) l3 hCV (Nat.le_refl _)
  -- deeds ahead of the least changed closing draw the same
  have hsame : ∀ K, K ≤ nd → (∀ k, k < K → (De k).1 = 2 → ¬ chg σ n P P' (De k).2.1) → ow n (Rd σ n P') Cf De K = ow n (Rd σ n P) Cf De K := fun K hK h => ow_same (fun k hk => ⟨rfl, fun h2 => by
    have hd := (l3.2 k (by omega)).2.1
    have h5 := l5 k (by omega) h2
    have hno := h k hk h2
    have hsm : smB (Rd σ n P' (De k).2.1) (Rd σ n P (De k).2.1) n = true := by
      rw [← Bool.not_eq_false]
      exact fun q => hno ⟨h5.1, q⟩
    exact ⟨smB_eq (hS' _ hd) (Rd_SR hi.1 hd) hsm, rfl⟩⟩)
  have hrow : ∀ k, k < nd → (De k).1 = 2 → ∀ u, u < 60 → s (56 + 10 * (De k).2.1) u = ow n (Rd σ n P) Cf De k u := fun k hk h2 u hu => by
    have hd := (l3.2 k hk).2.1
    have h5 := l5 k hk h2
    obtain ⟨g1, g2, g3, g4, ⟨j, j1, j2, j3, j4⟩, g6⟩ := (hE0 (De k).2.1 (by omega)).2.2.2.2.2.2.2.2.2 () h5.1
    have hjk : j = k := by have := h5.2; omega
    rw [As _ (by unfold scr; omega), j4 u hu, hjk]
  have hDC : DC s nd De := DC_cong (by rw [As 30 (by omega)]) (fun c h1 h2 => As c (by omega)) l1
  rcases G with G | ⟨d, g1, g2, g3⟩
  · -- nothing is another
    have hno : ∀ k, k < nd → (De k).1 = 2 → ¬ chg σ n P P' (De k).2.1 := fun k hk h2 h => by
      have hd := (l3.2 k hk).2.1
      have := F (De k).2.1 (by omega) h
      have := (l5 k hk h2).2
      omega
    have hz : ct (fun u => !decide (ow n (Rd σ n P') Cf De nd u = σ 37 u)) 60 = 0 := ct_zero (fun u hu => by
      rw [hsame nd (Nat.le_refl _) hno, l9 u hu, decide_eq_true rfl]; rfl)
    refine ⟨s, ?_, fun u hu => by rw [s37, l9 u hu, hsame nd (Nat.le_refl _) hno], fun k hk h2 u hu => by rw [hsame k (by omega) (fun j hj => hno j (by omega))]; exact hrow k hk h2 u hu, fun _ _ _ _ _ _ => rfl⟩
    unfold fx_49
    have h5 := hDC.1
    rw [G, hz, gq_R (by omega) (by omega), if_neg (by omega), gq_R (by omega) (by omega), if_neg (by omega)]
    rfl
  · have hcl := g2.1
    obtain ⟨q1, q2, q3, q4, ⟨k0, k1, k2, k3, k4⟩, q6⟩ := (hE0 d (by omega)).2.2.2.2.2.2.2.2.2 () hcl
    have hx : x = (k0 : Int) := by rw [g3, k2]
    have hlow : ∀ j, j < k0 → (De j).1 = 2 → ¬ chg σ n P P' (De j).2.1 := fun j hj h2 h => by
      have hd := (l3.2 j (by omega)).2.1
      have := F (De j).2.1 (by omega) h
      have := (l5 j (by omega) h2).2
      omega
    have hEC : ∀ k, k < nd → (De k).1 = 2 → EC s n 3 Cf (Rd σ n P') (De k).2.1 := fun k hk h2 => by
      have hd := (l3.2 k hk).2.1
      have hE := hE0 (De k).2.1 (by omega)
      refine ⟨by rw [B _ 0 (by omega) (by omega)]; exact hE.1, ?_, E _ (by omega) (l5 k hk h2).1⟩
      have h3 := hE.2.2.1
      unfold CL at h3 ⊢
      rw [B _ 3 (by omega) (by omega), As (47 + 10 * (De k).2.1 + 2) (by unfold scr; omega)]
      exact h3
    have h2k : (De k0).1 = 2 := by rw [k3]
    obtain ⟨s', e, r1, r2, r3⟩ := g49 (σ := s) (Rf := Rd σ n P') (Cf := Cf) hn hDC l3 l4 hCV hEC hS' (fun j k hj hk hj2 hk2 he => by
      have a1 := (l5 j hj hj2).2
      have a2 := (l5 k hk hk2).2
      rw [he] at a1
      omega) (fun u hu => by rw [s37, l9 u hu]; have := hown u; omega) k1 h2k (fun u hu => by rw [hrow k0 k1 h2k u hu, hsame k0 (by omega) hlow])
    refine ⟨s', ?_, r1, fun k hk h2 u hu => ?_, fun c h1 h2 h3 h4 h5 => r3 c h1 h2 h3 h4 (fun j _ hj => h5 j hj)⟩
    · rw [hx, e, s37]
    · by_cases hk0 : k0 ≤ k
      · exact r2 k hk0 hk h2 u hu
      · have hd := (l3.2 k hk).2.1
        rw [r3 _ (by omega) (by omega) (by omega) (by omega) (fun j hj1 hj2 hj3 he => by
          have a1 := (l5 j hj2 hj3).2
          have a2 := (l5 k hk h2).2
          rw [show (De k).2.1 = (De j).2.1 by omega] at a2
          omega), hrow k hk h2 u hu, hsame k (by omega) (fun j hj => hlow j (by omega))]
end RW1
