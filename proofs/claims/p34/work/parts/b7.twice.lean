section JG
variable {c : Int} {δ η : gb_S}
theorem jkd {a : Nat} (h : gb_kd a = 6) : 5 ≤ a := by
  have h1 : ∀ a ∈ List.range 5, ¬ gb_kd a = 6 := by decide +kernel
  refine Nat.le_of_not_lt fun q => h1 a (List.mem_range.mpr q) h
theorem jq_kd {r : Nat} {X Y : Option gb_P} (h : gb_kd r = 6 → X = Y) : gq (gb_kd r = 6) X = gq (gb_kd r = 6) Y := by
  unfold gq
  split
  · next q => exact h q
  · rfl
theorem jq_71 (H : DHd c δ η) (r : Nat) (x : Int) (ρ : gb_S) (K : Int → gb_S → Option gb_P) : gq (gb_kd r = 6) (gc (fx_71 r x (Jd η ρ)) K) = gq (gb_kd r = 6) (gc (jop (Jd η) (jhm δ (fx_71 r x) ρ)) K) := jq_kd fun h => by rw [jm_71 H r x (jkd h)]
theorem jq_72 (H : DHd c δ η) (r : Nat) (x : Int) (ρ : gb_S) (K : Int → gb_S → Option gb_P) : gq (gb_kd r = 6) (gc (fx_72 r x (Jd η ρ)) K) = gq (gb_kd r = 6) (gc (jop (Jd η) (jhm δ (fx_72 r x) ρ)) K) := jq_kd fun h => by rw [jm_72 H r x (jkd h)]
theorem jq_75 (H : DHd c δ η) (r : Nat) (ρ : gb_S) (K : Int → gb_S → Option gb_P) : gq (gb_kd r = 6) (gc (fx_75 r (Jd η ρ)) K) = gq (gb_kd r = 6) (gc (jop (Jd η) (jhm δ (fx_75 r) ρ)) K) := jq_kd fun h => by rw [jm_75 H r (jkd h)]
theorem jq_101 (H : DHd c δ η) (k : Nat) (x y z : Int) (r : Nat) (ρ : gb_S) : gq (gb_kd r = 6) (fx_101_21 k x r y z (Jd η ρ)) = gq (gb_kd r = 6) (jop (Jd η) (jhm δ (fx_101_21 k x r y z) ρ)) := jq_kd fun h => by rw [jm_101_21 k H x r y z (jkd h)]
theorem jm_97 (H : DHd c δ η) (x1 x2 : Int) (ρ : gb_S) : fx_97 x1 x2 (Jd η ρ) = jop (Jd η) (jhm δ (fx_97 x1 x2) ρ) := by
  have H1 := H.one
  show _ = jop (Jd η) (fx_97 x1 x2 (Jd δ ρ))
  unfold fx_97
  simp only [jm_110 H, jm_110 H1, jm_117 H, jm_117 H1, jm_119 H, jm_119 H1, jq_71 H, jq_71 H1, gc_jop, jop_gf, jop_gc, jop_q, jop_i, jop_s, jop_j, Jd_J]
theorem jm_98 (H : DHd c δ η) (x1 x2 : Int) (ρ : gb_S) : fx_98 x1 x2 (Jd η ρ) = jop (Jd η) (jhm δ (fx_98 x1 x2) ρ) := by
  have H1 := H.one
  show _ = jop (Jd η) (fx_98 x1 x2 (Jd δ ρ))
  unfold fx_98
  simp only [jm_110 H, jm_110 H1, jm_117 H, jm_117 H1, jm_119 H, jm_119 H1, jq_72 H, jq_72 H1, gc_jop, jop_gf, jop_gc, jop_q, jop_i, jop_s, jop_j, Jd_J]
theorem jm_100 (H : DHd c δ η) (x1 : Int) (ρ : gb_S) : fx_100 x1 (Jd η ρ) = jop (Jd η) (jhm δ (fx_100 x1) ρ) := by
  have H1 := H.one
  show _ = jop (Jd η) (fx_100 x1 (Jd δ ρ))
  unfold fx_100
  simp only [jm_110 H, jm_110 H1, jm_117 H, jm_117 H1, jm_119 H, jm_119 H1, jq_75 H, jq_75 H1, gc_jop, jop_gf, jop_gc, jop_q, jop_i, jop_s, jop_j, Jd_J]
theorem jm_101 (H : DHd c δ η) (x1 : Int) (ρ : gb_S) : fx_101 x1 (Jd η ρ) = jop (Jd η) (jhm δ (fx_101 x1) ρ) := by
  have H1 := H.one
  show _ = jop (Jd η) (fx_101 x1 (Jd δ ρ))
  unfold fx_101
  simp only [jm_110 H, jm_110 H1, jm_117 H, jm_117 H1, jm_119 H, jm_119 H1, jq_101 H, jq_101 H1, gc_jop, jop_gf, jop_gc, jop_q, jop_i, jop_s, jop_j, Jd_J]
/-- a birth's place among the others -/
theorem jm_22_68 (H : DHd c δ η) (x2 x3 : Int) (ρ : gb_S) : fx_22_68 x2 x3 (Jd η ρ) = jop (Jd η) (jhm δ (fx_22_68 x2 x3) ρ) := by
  have H1 := H.one
  show _ = jop (Jd η) (fx_22_68 x2 x3 (Jd δ ρ))
  unfold fx_22_68
  simp (disch := omega) only [Jd_rd, Jd_up, jop_q, jop_s, Jd_J]
theorem jn_22_28 (k : Nat) : ∀ (c : Int) (η : gb_S), DHd c δ η → ∀ (y x2 x3 : Int) (_ : 0 ≤ y ∧ y ≤ 2000) (ρ : gb_S), fx_22_28 k (c * y) x2 x3 (Jd η ρ) = jop (Jd η) (jhm δ (fx_22_28 k y x2 x3) ρ) := by
  induction k with
  | zero => intros; rfl
  | succ k ih =>
    intro c η H y x2 x3 hy ρ
    have H1 := H.one
    have k2 : ∀ (x2 x3 : Int) (ρ : gb_S), fx_22_28 k y x2 x3 (Jd δ ρ) = jop (Jd δ) (jhm δ (fx_22_28 k y x2 x3) ρ) := fun x2 x3 ρ => by
      have e := ih 1 δ H1 y x2 x3 hy ρ
      rw [Int.one_mul] at e
      exact e
    have k1 := fun (x2 x3 : Int) (ρ : gb_S) => ih c η H y x2 x3 hy ρ
    have b1 := fun x => gq_cR H.1 (jbo_c H x).2
    have b2 := fun x => gq_1R (jbo_c H x).2
    have b3 := gq_cR H.1 hy
    have b4 := gq_1R hy
    have b5 := fun x => (jbo_c H x).1
    show _ = jop (Jd η) (fx_22_28 (k + 1) y x2 x3 (Jd δ ρ))
    rw [fx_22_28, fx_22_28]
    simp (disch := omega) only [Jd_rd, Jd_up, j25, gc_q, gc_v', jgf_q, b5, b1, b2, b3, b4, jcl H.1, k1, k2, jm_22_68 H, jm_22_68 H1, gc_jop, jop_gc, jop_gf, jop_q, jop_i, jop_s, jop_j, Jd_J]
/-- all days twice -/
def dd (δ : gb_S) : gb_S := fun a j => 2 * δ a j
def dbl (σ : gb_S) : gb_S := Jd (dd σ) σ
def DAY (σ : gb_S) : Prop := ∀ j, (0 ≤ σ 3 j ∧ σ 3 j ≤ 2000) ∧ (0 ≤ σ 4 j ∧ σ 4 j ≤ 2000)
theorem DAY_1 (h : DAY δ) : DHd 1 δ δ := ⟨Or.inl rfl, fun j => ⟨(Int.one_mul _).symm, (Int.one_mul _).symm⟩, h⟩
theorem DAY_2 (h : DAY δ) : DHd 2 δ (dd δ) := ⟨Or.inr rfl, fun j => ⟨rfl, rfl⟩, h⟩
theorem dbl_rd (σ : gb_S) {a j : Nat} (h : a = 2 ∨ 5 ≤ a) : dbl σ a j = σ a j := Jd_rd h
theorem dbl_19 (σ : gb_S) : dbl σ 1 9 = 2 * σ 1 9 := rfl
/-- what a function does that goes along with the days -/
theorem jpub {F : gb_S → Option gb_P} {ρ : gb_S} (hF : ∀ (c : Int) (η : gb_S), DHd c δ η → ∀ ρ, F (Jd η ρ) = jop (Jd η) (jhm δ F ρ)) (hD : DAY δ) {o : Int ⊕ Nat} {s : gb_S} (h : F (Jd δ ρ) = some (o, s)) : F (Jd (dd δ) ρ) = some (o, dbl s) ∧ DAY s ∧ s 1 9 = δ 1 9 := by
  have e1 := hF 1 δ (DAY_1 hD) ρ
  have e2 := hF 2 (dd δ) (DAY_2 hD) ρ
  have e3 : jhm δ F ρ = some (o, s) := h
  rw [e3] at e1 e2
  rw [h] at e1
  have hs : s = Jd δ s := by
    have e4 : some (o, s) = some (o, Jd δ s) := e1
    exact (Prod.mk.inj (Option.some.inj e4)).2
  have h3 : ∀ j, s 3 j = δ 3 j := fun j => by rw [hs]; rfl
  have h4 : ∀ j, s 4 j = δ 4 j := fun j => by rw [hs]; rfl
  have h9 : s 1 9 = δ 1 9 := by rw [hs]; rfl
  refine ⟨?_, fun j => by rw [h3, h4]; exact hD j, h9⟩
  rw [e2]
  show some (o, Jd (dd δ) s) = some (o, dbl s)
  have e5 : Jd (dd δ) s = dbl s := by
    funext a j
    unfold dbl Jd
    by_cases q : a = 3 ∨ a = 4 ∨ a = 1 ∧ j = 9
    · rw [if_pos q, if_pos q]
      unfold dd
      rcases q with rfl | rfl | ⟨rfl, rfl⟩
      · rw [h3]
      · rw [h4]
      · rw [h9]
    · rw [if_neg q, if_neg q]
  rw [e5]
theorem jpubs {F : gb_S → Option gb_P} {σ : gb_S} (hF : ∀ (c : Int) (η : gb_S), DHd c σ η → ∀ ρ, F (Jd η ρ) = jop (Jd η) (jhm σ F ρ)) (hD : DAY σ) {o : Int ⊕ Nat} {s : gb_S} (h : F σ = some (o, s)) : F (dbl σ) = some (o, dbl s) ∧ DAY s ∧ s 1 9 = σ 1 9 := jpub hF hD (by rw [Jd_self]; exact h)
end JG
section JK
variable {σ s : gb_S} {o : Int ⊕ Nat} {n : Nat}
/-- days pass -/
theorem jd_pass {d : Int} (h1 : 1 ≤ d ∧ d ≤ 50) (h2 : 0 ≤ σ 1 9 ∧ 2 * (σ 1 9 + d) ≤ 2000) (hD : DAY σ) : ∃ s, fx_79 d σ = some (.inl (σ 1 9 + d), s) ∧ fx_79 (2 * d) (dbl σ) = some (.inl (2 * (σ 1 9 + d)), dbl s) ∧ DAY s ∧ s 1 9 = σ 1 9 + d := by
  refine ⟨gb_up σ 1 9 (σ 1 9 + d), ?_, ?_, fun j => hD j, up_eq _ _ _ _⟩
  · unfold fx_79
    rw [gq_R (by omega) (by omega), if_neg (by omega), if_neg (by omega), gq_R (by omega) (by omega), if_neg (by omega), up_eq]
  · unfold fx_79
    rw [dbl_19, gq_R (by omega) (by omega), if_neg (by omega), if_neg (by omega), gq_R (by omega) (by omega), if_neg (by omega), up_eq]
    have e1 : 2 * σ 1 9 + 2 * d = 2 * (σ 1 9 + d) := by omega
    have e2 : gb_up (dbl σ) 1 9 (2 * (σ 1 9 + d)) = dbl (gb_up σ 1 9 (σ 1 9 + d)) := by
      funext a j
      unfold dbl Jd dd gb_up
      try dsimp only
      by_cases q : a = 1 ∧ j = 9
      · rw [if_pos q, if_pos (by omega), if_pos q]
      · rw [if_neg q, if_neg q]
    rw [e1, e2]
/-- a birth -/
theorem jd_birth {d : Int} (h1 : 0 ≤ d) (h2 : d ≤ σ 1 9) (h3 : σ 1 9 ≤ 1000) (hn : 0 ≤ σ 2 3 ∧ σ 2 3 ≤ 14) (hD : DAY σ) (h : fx_81 d σ = some (o, s)) : fx_81 (2 * d) (dbl σ) = some (o, dbl s) ∧ DAY s ∧ s 1 9 = σ 1 9 := by
  unfold fx_81 at h ⊢
  rw [gq_R (by omega) (by omega), if_neg (by omega), gq_R (by omega) (by omega), if_neg (by omega), gq_R (by omega) (by omega)] at h
  rw [dbl_19, dbl_rd σ (a := 2) (j := 3) (Or.inl rfl), gq_R (by omega) (by omega), if_neg (by omega), gq_R (by omega) (by omega), if_neg (by omega), gq_R (by omega) (by omega)]
  by_cases hc : σ 2 3 < 14
  · rw [if_pos hc] at h ⊢
    have hg : ∀ {m : Option gb_P}, gc m (fun r4 s5 => some (.inl r4, s5)) = m := fun {m} => by rcases m with _ | ⟨_ | _, _⟩ <;> rfl
    rw [hg] at h ⊢
    unfold fx_22 at h ⊢
    rw [gq_R (by omega) (by omega), if_pos hc, gq_ix hn.1 hc] at h
    rw [dbl_rd σ (a := 2) (j := 3) (Or.inl rfl), gq_R (by omega) (by omega), if_pos hc, gq_ix hn.1 hc]
    have ha : gb_up σ 3 (σ 2 3).toNat d = Jd (gb_up σ 3 (σ 2 3).toNat d) σ := by
      funext a j
      unfold Jd gb_up
      try dsimp only
      by_cases q : a = 3 ∧ j = (σ 2 3).toNat
      · rw [if_pos q, if_pos (by omega)]
      · rw [if_neg q]
        split <;> rfl
    have hb : gb_up (dbl σ) 3 (σ 2 3).toNat (2 * d) = Jd (dd (gb_up σ 3 (σ 2 3).toNat d)) σ := by
      funext a j
      unfold dbl Jd dd gb_up
      try dsimp only
      by_cases q : a = 3 ∧ j = (σ 2 3).toNat
      · rw [if_pos q, if_pos (by omega), if_pos q]
      · rw [if_neg q, if_neg q]
    have hD2 : DAY (gb_up σ 3 (σ 2 3).toNat d) := fun j => by
      refine ⟨?_, (hD j).2⟩
      by_cases q : j = (σ 2 3).toNat
      · rw [q, up_eq]; omega
      · rw [up_nj _ _ _ _ q]; exact (hD j).1
    rw [ha] at h
    rw [hb]
    have e1 := jn_22_28 (δ := gb_up σ 3 (σ 2 3).toNat d) gFU 1 _ (DAY_1 hD2) d (σ 2 3) (σ 2 3) (by omega) σ
    have e2 := jn_22_28 (δ := gb_up σ 3 (σ 2 3).toNat d) gFU 2 _ (DAY_2 hD2) d (σ 2 3) (σ 2 3) (by omega) σ
    rw [Int.one_mul] at e1
    have h9 : jhm (gb_up σ 3 (σ 2 3).toNat d) (fx_22_28 gFU d (σ 2 3) (σ 2 3)) σ = some (o, s) := h
    rw [h9] at e1 e2
    rw [h] at e1
    have hs : s = Jd (gb_up σ 3 (σ 2 3).toNat d) s := by
      have e4 : some (o, s) = some (o, Jd (gb_up σ 3 (σ 2 3).toNat d) s) := e1
      exact (Prod.mk.inj (Option.some.inj e4)).2
    have g3 : ∀ j, s 3 j = gb_up σ 3 (σ 2 3).toNat d 3 j := fun j => by rw [hs]; rfl
    have g4 : ∀ j, s 4 j = gb_up σ 3 (σ 2 3).toNat d 4 j := fun j => by rw [hs]; rfl
    have g9 : s 1 9 = gb_up σ 3 (σ 2 3).toNat d 1 9 := by rw [hs]; rfl
    refine ⟨?_, fun j => by rw [g3, g4]; exact hD2 j, g9⟩
    rw [e2]
    show some (o, Jd (dd (gb_up σ 3 (σ 2 3).toNat d)) s) = some (o, dbl s)
    have e5 : Jd (dd (gb_up σ 3 (σ 2 3).toNat d)) s = dbl s := by
      funext a j
      unfold dbl Jd
      by_cases q : a = 3 ∨ a = 4 ∨ a = 1 ∧ j = 9
      · rw [if_pos q, if_pos q]
        unfold dd
        rcases q with rfl | rfl | ⟨rfl, rfl⟩
        · rw [g3]
        · rw [g4]
        · rw [g9]
      · rw [if_neg q, if_neg q]
    rw [e5]
  · rw [if_neg hc] at h ⊢
    cases h
    exact ⟨rfl, hD, rfl⟩
/-- a death -/
theorem jd_death {x : Int} (hx : -2147483648 ≤ x ∧ x ≤ 2147483647) (hn : n ≤ 14) (h3 : σ 2 3 = (n : Int)) (h9 : 0 ≤ σ 1 9 ∧ σ 1 9 ≤ 2000) (hD : DAY σ) (h : fx_82 x σ = some (o, s)) : fx_82 x (dbl σ) = some (o, dbl s) ∧ DAY s ∧ s 1 9 = σ 1 9 := by
  unfold fx_82 at h ⊢
  have h3' : dbl σ 2 3 = (n : Int) := by rw [dbl_rd σ (Or.inl rfl)]; exact h3
  rw [c110 hx hn h3] at h
  rw [c110 hx hn h3']
  by_cases hv : 0 ≤ x ∧ x < (n : Int)
  · rw [if_pos hv, gc_v] at h ⊢
    obtain ⟨p, rfl⟩ : ∃ p : Nat, x = (p : Int) := ⟨x.toNat, by omega⟩
    have hp : p < 14 := by omega
    rw [c116 hp] at h ⊢
    rw [dbl_rd σ (a := 2) (j := 4) (Or.inl rfl)]
    cases hb : bt (σ 2 4) p with
    | true =>
      rw [hb, if_pos rfl, gc_e] at h
      rw [if_pos rfl, gc_e]
      cases h
      exact ⟨rfl, hD, rfl⟩
    | false =>
      rw [hb, if_neg (by decide), gc_v] at h
      rw [if_neg (by decide), gc_v]
      have h23 : ∀ (t : Int) (τ : gb_S), fx_23 (p : Int) t τ = some (.inl 0, gb_up (gb_up τ 4 p t) 2 4 (gb_or (τ 2 4) (gb_shl 1 (p : Int)))) := fun t τ => by
        unfold fx_23
        rw [gq_R (by omega) (by omega), if_neg (by omega), if_pos (by omega), gq_ix (by omega) (by omega), Int.toNat_natCast, up_ne _ _ _ _ (by omega : (2 : Nat) ≠ 4)]
      rw [h23, gc_v] at h
      rw [h23, gc_v, dbl_19, dbl_rd σ (a := 2) (j := 4) (Or.inl rfl)]
      have ha : gb_up (gb_up σ 4 p (σ 1 9)) 2 4 (gb_or (σ 2 4) (gb_shl 1 (p : Int))) = Jd (gb_up σ 4 p (σ 1 9)) (gb_up σ 2 4 (gb_or (σ 2 4) (gb_shl 1 (p : Int)))) := by
        funext a j
        unfold Jd gb_up
        try dsimp only
        by_cases q : a = 2 ∧ j = 4
        · rw [if_pos q, if_neg (by omega), if_pos q]
        · rw [if_neg q, if_neg q]
          by_cases q2 : a = 4 ∧ j = p
          · rw [if_pos q2, if_pos (by omega)]
          · rw [if_neg q2]
            split <;> rfl
      have hb2 : gb_up (gb_up (dbl σ) 4 p (2 * σ 1 9)) 2 4 (gb_or (σ 2 4) (gb_shl 1 (p : Int))) = Jd (dd (gb_up σ 4 p (σ 1 9))) (gb_up σ 2 4 (gb_or (σ 2 4) (gb_shl 1 (p : Int)))) := by
        funext a j
        unfold dbl Jd dd gb_up
        try dsimp only
        by_cases q : a = 2 ∧ j = 4
        · rw [if_pos q, if_neg (by omega), if_pos q]
        · rw [if_neg q, if_neg q]
          by_cases q2 : a = 4 ∧ j = p
          · rw [if_pos q2, if_pos (by omega), if_pos q2]
          · rw [if_neg q2, if_neg q2]
      have hD2 : DAY (gb_up σ 4 p (σ 1 9)) := fun j => by
        refine ⟨(hD j).1, ?_⟩
        by_cases q : j = p
        · rw [q, up_eq]; exact h9
        · rw [up_nj _ _ _ _ q]; exact (hD j).2
      rw [ha] at h
      rw [hb2]
      exact jpub (F := fx_82_26 gFU (p : Int) 0 0) (fun c η H ρ => jm_82_26 gFU H (p : Int) 0 0 ρ) hD2 h
  · rw [if_neg hv, gc_e] at h ⊢
    cases h
    exact ⟨rfl, hD, rfl⟩
end JK
