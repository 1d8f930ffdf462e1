section LP1
variable {c0 : gh_C} {xs : List Int32} {t c n nb nd : Nat} {lo : gh_L} {σ : gb_S} {P : pT} {ps : Nat → Nat} {De : Nat → dT} {Cf : Nat → List Nat}
/-- a question leaves class and reference together -/
theorem lq_J {mx : gb_S → Option gb_P} {v : Int} (hi : IV2 c σ n nb nd P ps De Cf) (h : RQ mx 0 v n P σ) : ∃ s, mx σ = some (.inl v, s) ∧ JJ (c + 1) s := by
  obtain ⟨s, e, sc, st, _, _⟩ := h
  exact ⟨s, e, n, nb, nd, P, ps, De, Cf, IV_mono (SC_IV sc st hi)⟩
/-- the last five bits of a command -/
theorem lp_31 (x : Int32) : ∃ j : Nat, j < 32 ∧ x &&& 31 = Int32.ofNat j := by
  refine ⟨(x &&& 31).toBitVec.toNat, ?_, ?_⟩
  · rw [Int32.toBitVec_and, BitVec.toNat_and]
    exact Nat.lt_of_le_of_lt Nat.and_le_right (by decide)
  · apply Int32.toBitVec_inj.mp
    show _ = BitVec.ofNat 32 _
    rw [BitVec.ofNat_toNat, BitVec.setWidth_eq]
/-- one command of the script, behind the switch -/
theorem lp_sw (hc0 : c0 = (20, xs.map Value.int)) (hl : xs.length ≤ 2560) (hj : 5 * c + 5 ≤ xs.length) (l : LL lo c) (hJ : JJ c σ) (cont : ∀ σ2 lo2, JJ (c + 1) σ2 → LL lo2 c → zw c0 t 1959 lo2 [] σ2) {j : Nat} (hj32 : j < 32) : zw c0 (t + 62) 39 lo [.int (Int32.ofNat j)] σ := by
  obtain ⟨n, nb, nd, P, ps, De, Cf, hi⟩ := hJ
  have hc : c ≤ 1000 := by omega
  have hn := hi.1.1
  have h9 := hi.2.2.1
  have go : ∀ (p : Nat), gh_step true 9 (some .boolean) 39 (.tableswitch 1920 0 30 #[137, 193, 206, 262, 318, 331, 394, 474, 542, 626, 682, 695, 763, 819, 899, 967, 1023, 1079, 1142, 1209, 1276, 1343, 1399, 1455, 1511, 1591, 1683, 1739, 1795, 1851, 1864]) 137 lo [.int (Int32.ofNat j)] (gb_H c0 σ) = some (.inl (p, lo, [], gb_H c0 σ)) → zw c0 (t + 61) p lo [] σ → zw c0 (t + 62) 39 lo [.int (Int32.ofNat j)] σ := fun p hs h => zw_s p (by decide +kernel) hs h
  rcases (show j = 0 ∨ j = 1 ∨ j = 2 ∨ j = 3 ∨ j = 4 ∨ j = 5 ∨ j = 6 ∨ j = 7 ∨ j = 8 ∨ j = 9 ∨ j = 10 ∨ j = 11 ∨ j = 12 ∨ j = 13 ∨ j = 14 ∨ j = 15 ∨ j = 16 ∨ j = 17 ∨ j = 18 ∨ j = 19 ∨ j = 20 ∨ j = 21 ∨ j = 22 ∨ j = 23 ∨ j = 24 ∨ j = 25 ∨ j = 26 ∨ j = 27 ∨ j = 28 ∨ j = 29 ∨ j = 30 ∨ j = 31 by omega) with rfl | rfl | rfl | rfl | rfl | rfl | rfl | rfl | rfl | rfl | rfl | rfl | rfl | rfl | rfl | rfl | rfl | rfl | rfl | rfl | rfl | rfl | rfl | rfl | rfl | rfl | rfl | rfl | rfl | rfl | rfl | rfl
  · exact go 176 rfl (zw_t (lc_0 hc0 hl hj l (uc0 (xj_b xs c 1) hi) cont) (by omega))
  · obtain ⟨s, e2, hJ⟩ := lq_J hi (qc1 hi).2
    exact go 232 rfl (zw_t (lc_1 l (qc1 hi).1 (by unfold gb_R; omega) e2 hJ cont) (by omega))
  · exact go 245 rfl (zw_t (lc_2 hc0 hl hj l (uc2 (xj_b xs c 1) hi) cont) (by omega))
  · exact go 301 rfl (zw_t (lc_3 hc0 hl hj l (uc3 (xj_b xs c 1) hi) cont) (by omega))
  · obtain ⟨s, e2, hJ⟩ := lq_J hi (qc4 hi).2
    exact go 357 rfl (zw_t (lc_4 l (qc4 hi).1 (by unfold gb_R; omega) e2 hJ cont) (by omega))
  · exact go 370 rfl (zw_t (lc_5 hc0 hl hj l (qc5 (xj_b xs c 1) hi) cont) (by omega))
  · exact go 433 rfl (zw_t (lc_6 hc0 hl hj l (uc6 (xj_b xs c 1) (xj_b xs c 2) (xj_b xs c 3) hc hi) cont) (by omega))
  · exact go 513 rfl (zw_t (lc_7 hc0 hl hj l (uc7 (xj_b xs c 1) (xj_b xs c 2) hc hi) cont) (by omega))
  · exact go 581 rfl (zw_t (lc_8 hc0 hl hj l (uc8 (!decide (xj xs c 2 = 0)) (xj_b xs c 1) hc hi) cont) (by omega))
  · exact go 665 rfl (zw_t (lc_9 hc0 hl hj l (qc9 (xj_b xs c 1) hi) cont) (by omega))
  · obtain ⟨v, e1, hv, hq⟩ := qc10 hi
    obtain ⟨s, e2, hJ⟩ := lq_J hi hq
    exact go 721 rfl (zw_t (lc_10 l e1 (by unfold gb_R; omega) e2 hJ cont) (by omega))
  · exact go 734 rfl (zw_t (lc_11 hc0 hl hj l (qc11 (xj_b xs c 1) (xj_b xs c 2) hi) cont) (by omega))
  · exact go 802 rfl (zw_t (lc_12 hc0 hl hj l (qc12 (xj_b xs c 1) hi) cont) (by omega))
  · exact go 858 rfl (zw_t (lc_13 hc0 hl hj l (uc13 (xj_b xs c 1) (xj_b xs c 2) (xj_b xs c 3) hi) cont) (by omega))
  · exact go 938 rfl (zw_t (lc_14 hc0 hl hj l (uc14 (xj_b xs c 1) (xj_b xs c 2) hi) cont) (by omega))
  · exact go 1006 rfl (zw_t (lc_15 hc0 hl hj l (qc15 (xj_b xs c 1) hi) cont) (by omega))
  · exact go 1062 rfl (zw_t (lc_16 hc0 hl hj l (uc16 (xj_b xs c 1) hi) cont) (by omega))
  · exact go 1118 rfl (zw_t (lc_17 hc0 hl hj l (qc17 (xj_b xs c 1) hi) cont) (by omega))
  · exact go 1181 rfl (zw_t (lc_18 hc0 hl hj l ((qc18 (xj_b xs c 1) (xj_b xs c 2) hi).1) cont) (by omega))
  · exact go 1248 rfl (zw_t (lc_19 hc0 hl hj l ((qc18 (xj_b xs c 1) (xj_b xs c 2) hi).2.1) cont) (by omega))
  · exact go 1315 rfl (zw_t (lc_20 hc0 hl hj l ((qc18 (xj_b xs c 1) (xj_b xs c 2) hi).2.2) cont) (by omega))
  · exact go 1382 rfl (zw_t (lc_21 hc0 hl hj l (qc21 (xj_b xs c 1) hi) cont) (by omega))
  · exact go 1438 rfl (zw_t (lc_22 hc0 hl hj l (qc22 (xj_b xs c 1) hi) cont) (by omega))
  · exact go 1494 rfl (zw_t (lc_23 hc0 hl hj l (qc23 (xj_b xs c 1) hc hi) cont) (by omega))
  · exact go 1550 rfl (zw_t (lc_24 hc0 hl hj l (uc24 (xj_b xs c 1) (xj_b xs c 2) (xj_b xs c 3) hi) cont) (by omega))
  · exact go 1630 rfl (zw_t (lc_25 hc0 hl hj l (uc25 (xj_b xs c 1) (xj_b xs c 2) (xj_b xs c 3) (xj_b xs c 4) hi) cont) (by omega))
  · exact go 1722 rfl (zw_t (lc_26 hc0 hl hj l (qc26 (xj_b xs c 1) hi) cont) (by omega))
  · exact go 1778 rfl (zw_t (lc_27 hc0 hl hj l (qc27 (xj_b xs c 1) hi) cont) (by omega))
  · exact go 1834 rfl (zw_t (lc_28 hc0 hl hj l (qc28 (xj_b xs c 1) hi) cont) (by omega))
  · obtain ⟨v, e1, hv, hq⟩ := qc29 hi
    obtain ⟨s, e2, hJ⟩ := lq_J hi hq
    exact go 1890 rfl (zw_t (lc_29 l e1 (by unfold gb_R; omega) e2 hJ cont) (by omega))
  · exact go 1903 rfl (zw_t (lc_30 hc0 hl hj l (qc30 (xj_b xs c 1) hi) cont) (by omega))
  · exact go 1959 rfl (zw_t (cont _ _ ⟨n, nb, nd, P, ps, De, Cf, IV_mono hi⟩ l) (by omega))
end LP1
