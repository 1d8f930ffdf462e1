section FR1
def ib (b : Bool) : Int := if b = true then 1 else 0
theorem ibT : ib true = 1 := rfl
theorem ibF : ib false = 0 := rfl
theorem ibR (b : Bool) : -2147483648 ≤ ib b ∧ ib b ≤ 2147483647 := bR b
variable {σ σ' : gb_S} {c n n' nb nd : Nat} {P : pT} {ps ps' : Nat → Nat} {De De' : Nat → dT} {Cf Cf' : Nat → List Nat} {Rf Rf' : Nat → Nat → Rat}
theorem i126 {x lo hi : Int} (h1 : -2147483648 ≤ x ∧ x ≤ 2147483647) (h2 : -2147483648 ≤ lo ∧ lo ≤ 2147483647) (h3 : -2147483648 ≤ hi ∧ hi ≤ 2147483647) : fx_126 x lo hi σ = some (.inl (ib (decide (lo ≤ x ∧ x ≤ hi))), σ) := g126 h1 h2 h3
theorem i131 {x : Int} (h1 : -2147483648 ≤ x ∧ x ≤ 2147483647) (hn : n ≤ 14) (h3 : σ 187 3 = (n : Int)) : fx_131 x σ = some (.inl (ib (decide (0 ≤ x ∧ x < (n : Int)))), σ) := g131 h1 hn h3
theorem i132 {x : Int} (h1 : -2147483648 ≤ x ∧ x ≤ 2147483647) {m : Nat} (hn : m ≤ 30) (h3 : σ 187 8 = (m : Int)) : fx_132 x σ = some (.inl (ib (decide (0 ≤ x ∧ x < (m : Int)))), σ) := g132 h1 hn h3
theorem i133 {x : Int} (h1 : -2147483648 ≤ x ∧ x ≤ 2147483647) {m : Nat} (hn : m ≤ 30) (h3 : σ 187 12 = (m : Int)) : fx_133 x σ = some (.inl (ib (decide (0 ≤ x ∧ x < (m : Int)))), σ) := g133 h1 hn h3
theorem i134 {x : Int} (h1 : -2147483648 ≤ x ∧ x ≤ 2147483647) : fx_134 x σ = some (.inl (ib (decide (0 ≤ x ∧ x < 60))), σ) := g134 h1
theorem i127 (b : Bool) : fx_127 (ib b) σ = some (.inl (ib b), gb_up σ 187 43 (if b = true then 0 else 1)) := g127 b
theorem i128 (b1 b2 : Bool) : fx_128 (ib b1) (ib b2) σ = some (.inl (ib (b1 && b2)), gb_up σ 187 43 (if b1 = true then (if b2 = true then 0 else 2) else 1)) := g128 b1 b2
theorem i129 (b1 b2 b3 : Bool) : fx_129 (ib b1) (ib b2) (ib b3) σ = some (.inl (ib (b1 && (b2 && b3))), gb_up σ 187 43 (if b1 = true then (if b2 = true then (if b3 = true then 0 else 3) else 2) else 1)) := g129 b1 b2 b3
/-- those ranked do not hang on how many people there are behind the last with a share -/
theorem RL_ext {R : Nat → Rat} {C : List Nat} (h : n ≤ n') (hz : ∀ p, n ≤ p → R p = 0) : RL n' R C = RL n R C := by
  unfold RL
  congr 1
  induction n' with
  | zero => rw [show n = 0 by omega]
  | succ m ih =>
    by_cases hq : n = m + 1
    · rw [hq]
    · rw [List.range_succ, filter_snoc, ih (by omega), hz m (by omega)]
      simp
theorem ow_same {K : Nat} (h : ∀ k, k < K → De' k = De k ∧ ((De k).1 = 2 → Rf' (De k).2.1 = Rf (De k).2.1 ∧ RL n' (Rf (De k).2.1) (Cf' (De k).2.1) = RL n (Rf (De k).2.1) (Cf (De k).2.1))) : ow n' Rf' Cf' De' K = ow n Rf Cf De K := by
  induction K with
  | zero => rfl
  | succ k ih =>
    have hk := h k (by omega)
    rw [ow, ow, ih (fun j hj => h j (by omega)), hk.1]
    unfold dst
    by_cases h2 : (De k).1 = 2
    · rw [if_pos h2, if_pos h2]
      unfold inhS DL
      rw [(hk.2 h2).1, (hk.2 h2).2]
    · rw [if_neg h2, if_neg h2]
/-- shares hang on the weights of those who were alive, alone -/
theorem Rs_w {T : kT} {w w' : Nat → Int} (h : ∀ p, ka T p = true → w' p = w p) : Rs T w' = Rs T w := by
  have hW : Ws T w' = Ws T w := by
    unfold Ws
    refine si_congr (fun p _ => ?_)
    by_cases ha : ka T p = true
    · rw [if_pos ha, if_pos ha, h p ha]
    · rw [if_neg ha, if_neg ha]
  have hp : pt T w' = pt T w := by unfold pt; rw [hW]
  have hh : hk T w' = hk T w := by unfold hk; rw [hW]
  funext p
  unfold Rs Rw Rk
  rw [hW, hp, hh]
  by_cases ha : ka T p = true
  · rw [h p ha]
  · have e : ∀ x : Rat, (if 0 < Ws T w ∧ ka T p = true then x else 0) = 0 := fun x => if_neg (fun q => ha q.2)
    rw [e, e]
/-- no new closing, no other land: what has to be shown -/
theorem IV_upd (hi : IV2 c σ n nb nd P ps De Cf) (hnn : n ≤ n') (hrb : RB σ' n' nb P ps') (hst : ST σ' n' P) (hday : σ' 187 0 = σ' 1 9 ∧ 0 ≤ σ' 1 9 ∧ σ' 1 9 ≤ 2000) (hfo : FO σ' n') (hpo : PO σ' nb P) (hkp : KP σ' 15 P) (hcl : ∀ d, d < n → σ 198 d = 1 → Rd σ' n' P d = Rd σ n P d ∧ Cf' d = Cf d ∧ σ' 189 d ≠ -1) (hes : ∀ d, d < 14 → (∀ j, j ≠ 3 → σ' (47 + 10 * d) j = σ (47 + 10 * d) j) ∧ σ' (47 + 10 * d + 3 + 1) = σ (47 + 10 * d + 3 + 1) ∧ σ' (47 + 10 * d + 3 + 2) = σ (47 + 10 * d + 3 + 2) ∧ σ' (56 + 10 * d) = σ (56 + 10 * d) ∧ (∀ p, p < 14 → σ' (47 + 10 * d + 1) p = ww σ' d p) ∧ CL σ' (47 + 10 * d) n' (Cf' d) ∧ CR σ' d n' (Cf' d) ∧ (n' ≤ d → Cf' d = [])) (f : ∀ c, (30 ≤ c ∧ c ≤ 37) ∨ (198 ≤ c ∧ c ≤ 200) ∨ (203 ≤ c ∧ c ≤ 209) → σ' c = σ c) (h25 : σ' 187 25 = σ 187 25) (h26 : σ' 187 26 = σ 187 26) : IV2 c σ' n' nb nd P ps' De Cf' := by
  obtain ⟨i1, i2, i3, i4, i5, i6, i7, i8⟩ := hi
  obtain ⟨l1, l2, l3, l4, l5, l6, l7, l8, l9, l10⟩ := i8
  have hn := hrb.1
  have e198 : σ' 198 = σ 198 := f 198 (by omega)
  have hclo : ∀ d, d < 14 → σ 198 d = 1 → d < n := fun d hd h => Nat.lt_of_not_le (fun hle => by
    obtain ⟨e1, e2, e3, e4, e5, e6, e7, e8, e9, e10⟩ := i7 d hd
    have := (e9 hle).1
    omega)
  have how : ∀ K, K ≤ nd → ow n' (Rd σ' n' P) Cf' De K = ow n (Rd σ n P) Cf De K := fun K hK => ow_same (fun k hk => ⟨rfl, fun h2 => by
    have hd := (l3.2 k (by omega)).2.1
    have hc := hcl _ hd (l5 k (by omega) h2).1
    exact ⟨hc.1, by rw [hc.2.1]; exact RL_ext hnn (Rd_SR i1 hd).2.1⟩⟩)
  refine ⟨hrb, hst, hday, hfo, hpo, hkp, fun d hd => ?_, ?_⟩
  · obtain ⟨e1, e2, e3, e4, e5, e6, e7, e8, e9, e10⟩ := i7 d hd
    obtain ⟨q1, q2, q3, q4, q5, q6, q7, q8⟩ := hes d hd
    have e203 : σ' 203 = σ 203 := f 203 (by omega)
    refine ⟨by rw [q1 0 (by omega)]; exact e1, q5, q6, q7, by rw [q1 4 (by omega), e198]; exact e5, by rw [e198]; exact e6, by rw [q1 7 (by omega), e203]; exact e7, by rw [e203]; exact e8, fun hle => by rw [e198, e203, f 200 (by omega)]; exact ⟨(e9 (by omega)).1, q8 hle, (e9 (by omega)).2.2⟩, fun u h1 => ?_⟩
    rw [e198] at h1
    have hdn := hclo d hd h1
    have hc := hcl d hdn h1
    obtain ⟨g1, g2, g3, g4, ⟨k, k1, k2, k3, k4⟩, g6⟩ := e10 u h1
    rw [f 200 (by omega), f 199 (by omega), q1 5 (by omega), q1 6 (by omega), q4, hc.1]
    refine ⟨hc.2.2, ⟨g2.1, by omega⟩, g3, g4, ⟨k, k1, k2, k3, fun u hu => ?_⟩, cm_cong q2 q3 g6⟩
    rw [how k (by omega)]
    exact k4 u hu
  · refine ⟨DC_cong (by rw [f 30 (by omega)]) (fun c h1 h2 => f c (by omega)) l1, DR_cong h25 (fun c hc => f c (by omega)) l2, ⟨l3.1, fun k hk => ?_⟩, l4, fun k hk h2 => ?_, ?_, ?_, ?_, ?_, ?_⟩
    · obtain ⟨v1, v2, v3, v4, v5⟩ := l3.2 k hk
      exact ⟨v1, by omega, fun h => by have := v3 h; omega, v4, v5⟩
    · have hd := (l3.2 k hk).2.1
      have hn0 := i1.1
      rw [e198, (hes _ (by omega)).1 6 (by omega)]
      exact l5 k hk h2
    · rw [f 30 (by omega), h26]; exact l6
    · rw [h26]; exact l7
    · rw [f 36 (by omega), f 209 (by omega), f 35 (by omega)]; exact l8
    · rw [f 37 (by omega), how nd (Nat.le_refl _)]; exact l9
    · rw [f 209 (by omega), e198, h26]; exact l10
/-- shares of an estate where neither kin nor those alive nor weights are others -/
theorem Rd_w {d : Nat} (hb : RB σ n nb P ps) (hd : d < n) (ht : TT σ' n P d = TT σ n P d) (hw : ∀ p, p < n → σ' 197 (14 * d + p) = σ 197 (14 * d + p)) : Rd σ' n P d = Rd σ n P d := by
  unfold Rd
  rw [ht]
  refine Rs_w (fun p hp => ?_)
  have hp : TA σ n d p = true := hp
  unfold TA at hp
  rw [Bool.and_eq_true, decide_eq_true_eq] at hp
  exact hw p hp.1
end FR1
