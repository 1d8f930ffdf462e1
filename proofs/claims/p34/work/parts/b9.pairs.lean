section CA2
variable {c : Nat} {σ : gb_S} {n nb nd : Nat} {P : pT} {ps : Nat → Nat} {De : Nat → dT} {Cf : Nat → List Nat}
theorem pp_128_3 {x : Int} (h0 : -2147483648 ≤ x ∧ x ≤ 2147483647) (hc : c ≤ 1000) (hi : IV2 c σ n nb nd P ps De Cf) (hD : DAY σ) : jPP c (fy_128 3 x) (fy_128 3 x) jRI σ := by
  refine jPP_of (V := jvI) (ca_95 h0 hc hi) hD (fun o s h => jpubs (fun c η H ρ => jm_95 H x ρ) hD h) ?_ ?_ jV1
  · intro o s ok h
    unfold fy_128
    rw [gq_R (by omega) (by omega), if_neg (by decide), if_neg (by decide), if_neg (by decide)]
    rw [h]
    rcases o with r | E
    · rfl
    · rcases ok with rfl | rfl | rfl <;> rfl
  · intro o s ok h
    unfold fy_128
    rw [gq_R (by omega) (by omega), if_neg (by decide), if_neg (by decide), if_neg (by decide)]
    rw [h]
    rcases o with r | E
    · rfl
    · rcases ok with rfl | rfl | rfl <;> rfl
theorem pp_129_0 {x : Int} {y : Int} (h0 : -2147483648 ≤ x ∧ x ≤ 2147483647) (h1 : -2147483648 ≤ y ∧ y ≤ 2147483647) (hc : c ≤ 1000) (hi : IV2 c σ n nb nd P ps De Cf) (hD : DAY σ) : jPP c (fy_129 0 x y) (fy_129 0 x y) jRI σ := by
  refine jPP_of (V := jvI) (ca_86 h0 h1 hc hi) hD (fun o s h => jpubs (fun c η H ρ => jm_86 H x y ρ) hD h) ?_ ?_ jV1
  · intro o s ok h
    unfold fy_129
    rw [gq_R (by omega) (by omega), if_pos rfl]
    rw [h]
    rcases o with r | E
    · rfl
    · rcases ok with rfl | rfl | rfl <;> rfl
  · intro o s ok h
    unfold fy_129
    rw [gq_R (by omega) (by omega), if_pos rfl]
    rw [h]
    rcases o with r | E
    · rfl
    · rcases ok with rfl | rfl | rfl <;> rfl
theorem pp_129_2 {x : Int} {y : Int} (h0 : -2147483648 ≤ x ∧ x ≤ 2147483647) (h1 : -2147483648 ≤ y ∧ y ≤ 2147483647) (hc : c ≤ 1000) (hi : IV2 c σ n nb nd P ps De Cf) (hD : DAY σ) : jPP c (fy_129 2 x y) (fy_129 2 x y) jRI σ := by
  refine jPP_of (V := jvI) (ca_93 h0 h1 hc hi) hD (fun o s h => jpubs (fun c η H ρ => jm_93 H x y ρ) hD h) ?_ ?_ jV1
  · intro o s ok h
    unfold fy_129
    rw [gq_R (by omega) (by omega), if_neg (by decide), if_neg (by decide)]
    rw [h]
    rcases o with r | E
    · rfl
    · rcases ok with rfl | rfl | rfl <;> rfl
  · intro o s ok h
    unfold fy_129
    rw [gq_R (by omega) (by omega), if_neg (by decide), if_neg (by decide)]
    rw [h]
    rcases o with r | E
    · rfl
    · rcases ok with rfl | rfl | rfl <;> rfl
theorem pp_130_0 {x : Int} {y : Int} {z : Int} (h0 : -2147483648 ≤ x ∧ x ≤ 2147483647) (h1 : -2147483648 ≤ y ∧ y ≤ 2147483647) (h2 : -2147483648 ≤ z ∧ z ≤ 2147483647) (hc : c ≤ 1000) (hi : IV2 c σ n nb nd P ps De Cf) (hD : DAY σ) : jPP c (fy_130 0 x y z) (fy_130 0 x y z) jRI σ := by
  refine jPP_of (V := jvI) (ca_85 h0 h1 h2 hc hi) hD (fun o s h => jpubs (fun c η H ρ => jm_85 H x y z ρ) hD h) ?_ ?_ jV1
  · intro o s ok h
    unfold fy_130
    rw [gq_R (by omega) (by omega), if_pos rfl]
    rw [h]
    rcases o with r | E
    · rfl
    · rcases ok with rfl | rfl | rfl <;> rfl
  · intro o s ok h
    unfold fy_130
    rw [gq_R (by omega) (by omega), if_pos rfl]
    rw [h]
    rcases o with r | E
    · rfl
    · rcases ok with rfl | rfl | rfl <;> rfl
theorem pp_130_1 {x : Int} {y : Int} {z : Int} (h0 : -2147483648 ≤ x ∧ x ≤ 2147483647) (h1 : -2147483648 ≤ y ∧ y ≤ 2147483647) (h2 : -2147483648 ≤ z ∧ z ≤ 2147483647) (hc : c ≤ 1000) (hi : IV2 c σ n nb nd P ps De Cf) (hD : DAY σ) : jPP c (fy_130 1 x y z) (fy_130 1 x y z) jRI σ := by
  refine jPP_of (V := jvI) (ca_92 h0 h1 h2 hc hi) hD (fun o s h => jpubs (fun c η H ρ => jm_92 H x y z ρ) hD h) ?_ ?_ jV1
  · intro o s ok h
    unfold fy_130
    rw [gq_R (by omega) (by omega), if_neg (by decide), if_pos rfl]
    rw [h]
    rcases o with r | E
    · rfl
    · rcases ok with rfl | rfl | rfl <;> rfl
  · intro o s ok h
    unfold fy_130
    rw [gq_R (by omega) (by omega), if_neg (by decide), if_pos rfl]
    rw [h]
    rcases o with r | E
    · rfl
    · rcases ok with rfl | rfl | rfl <;> rfl
theorem pp_130_2 {x : Int} {y : Int} {z : Int} (h0 : -2147483648 ≤ x ∧ x ≤ 2147483647) (h1 : -2147483648 ≤ y ∧ y ≤ 2147483647) (h2 : -2147483648 ≤ z ∧ z ≤ 2147483647) (hc : c ≤ 1000) (hi : IV2 c σ n nb nd P ps De Cf) (hD : DAY σ) : jPP c (fy_130 2 x y z) (fy_130 2 x y z) jRI σ := by
  refine jPP_of (V := jvI) (ca_103 h0 h1 h2 hc hi) hD (fun o s h => jpubs (fun c η H ρ => jm_103 H x y z ρ) hD h) ?_ ?_ jV1
  · intro o s ok h
    unfold fy_130
    rw [gq_R (by omega) (by omega), if_neg (by decide), if_neg (by decide)]
    rw [h]
    rcases o with r | E
    · rfl
    · rcases ok with rfl | rfl | rfl <;> rfl
  · intro o s ok h
    unfold fy_130
    rw [gq_R (by omega) (by omega), if_neg (by decide), if_neg (by decide)]
    rw [h]
    rcases o with r | E
    · rfl
    · rcases ok with rfl | rfl | rfl <;> rfl
theorem pp_131 {x : Int} {y : Int} {z : Int} {w : Int} (h0 : -2147483648 ≤ x ∧ x ≤ 2147483647) (h1 : -2147483648 ≤ y ∧ y ≤ 2147483647) (h2 : -2147483648 ≤ z ∧ z ≤ 2147483647) (h3 : -2147483648 ≤ w ∧ w ≤ 2147483647) (hc : c ≤ 1000) (hi : IV2 c σ n nb nd P ps De Cf) (hD : DAY σ) : jPP c (fy_131 x y z w) (fy_131 x y z w) jRI σ := by
  refine jPP_of (V := jvI) (ca_104 h0 h1 h2 h3 hc hi) hD (fun o s h => jpubs (fun c η H ρ => jm_104 H x y z w ρ) hD h) ?_ ?_ jV1
  · intro o s ok h
    unfold fy_131
    rw [h]
    rcases o with r | E
    · rfl
    · rcases ok with rfl | rfl | rfl <;> rfl
  · intro o s ok h
    unfold fy_131
    rw [h]
    rcases o with r | E
    · rfl
    · rcases ok with rfl | rfl | rfl <;> rfl
theorem pp_132_0 {x : Int} {y : Int} (h0 : -2147483648 ≤ x ∧ x ≤ 2147483647) (h1 : -2147483648 ≤ y ∧ y ≤ 2147483647) (hc : c ≤ 1000) (hi : IV2 c σ n nb nd P ps De Cf) (hD : DAY σ) : jPP c (fy_132 0 x y) (fy_132 0 x y) jRJ σ := by
  refine jPP_of (V := jvI) (ca_97 h0 h1 hc hi) hD (fun o s h => jpubs (fun c η H ρ => jm_97 H x y ρ) hD h) ?_ ?_ jV3
  · intro o s ok h
    unfold fy_132
    rw [gq_R (by omega) (by omega), if_pos rfl]
    rw [h]
    rcases o with r | E
    · rfl
    · rcases ok with rfl | rfl <;> rfl
  · intro o s ok h
    unfold fy_132
    rw [gq_R (by omega) (by omega), if_pos rfl]
    rw [h]
    rcases o with r | E
    · rfl
    · rcases ok with rfl | rfl <;> rfl
theorem pp_132_1 {x : Int} {y : Int} (h0 : -2147483648 ≤ x ∧ x ≤ 2147483647) (h1 : -2147483648 ≤ y ∧ y ≤ 2147483647) (hc : c ≤ 1000) (hi : IV2 c σ n nb nd P ps De Cf) (hD : DAY σ) : jPP c (fy_132 1 x y) (fy_132 1 x y) jRJ σ := by
  refine jPP_of (V := jvI) (ca_98 h0 h1 hc hi) hD (fun o s h => jpubs (fun c η H ρ => jm_98 H x y ρ) hD h) ?_ ?_ jV3
  · intro o s ok h
    unfold fy_132
    rw [gq_R (by omega) (by omega), if_neg (by decide), if_pos rfl]
    rw [h]
    rcases o with r | E
    · rfl
    · rcases ok with rfl | rfl <;> rfl
  · intro o s ok h
    unfold fy_132
    rw [gq_R (by omega) (by omega), if_neg (by decide), if_pos rfl]
    rw [h]
    rcases o with r | E
    · rfl
    · rcases ok with rfl | rfl <;> rfl
theorem pp_132_2 {x : Int} {y : Int} (h0 : -2147483648 ≤ x ∧ x ≤ 2147483647) (h1 : -2147483648 ≤ y ∧ y ≤ 2147483647) (hc : c ≤ 1000) (hi : IV2 c σ n nb nd P ps De Cf) (hD : DAY σ) : jPP c (fy_132 2 x y) (fy_132 2 x y) jRJ σ := by
  refine jPP_of (V := jvI) (ca_99 h0 h1 hc hi) hD (fun o s h => jpubs (fun c η H ρ => jm_99 H x y ρ) hD h) ?_ ?_ jV3
  · intro o s ok h
    unfold fy_132
    rw [gq_R (by omega) (by omega), if_neg (by decide), if_neg (by decide)]
    rw [h]
    rcases o with r | E
    · rfl
    · rcases ok with rfl | rfl <;> rfl
  · intro o s ok h
    unfold fy_132
    rw [gq_R (by omega) (by omega), if_neg (by decide), if_neg (by decide)]
    rw [h]
    rcases o with r | E
    · rfl
    · rcases ok with rfl | rfl <;> rfl
theorem pp_133_0 {x : Int} (h0 : -2147483648 ≤ x ∧ x ≤ 2147483647) (hc : c ≤ 1000) (hi : IV2 c σ n nb nd P ps De Cf) (hD : DAY σ) : jPP c (fy_133 0 x) (fy_133 0 x) jRI σ := by
  refine jPP_of (V := jvZ) (ca_84 h0 hc hi) hD (fun o s h => jpubs (fun c η H ρ => jm_84 H x ρ) hD h) ?_ ?_ jV2
  · intro o s ok h
    unfold fy_133
    rw [gq_R (by omega) (by omega), if_pos rfl]
    rw [h]
    rcases o with r | E
    · exact jZ ok
    · rcases ok with rfl | rfl <;> rfl
  · intro o s ok h
    unfold fy_133
    rw [gq_R (by omega) (by omega), if_pos rfl]
    rw [h]
    rcases o with r | E
    · exact jZ ok
    · rcases ok with rfl | rfl <;> rfl
theorem pp_133_1 {x : Int} (h0 : -2147483648 ≤ x ∧ x ≤ 2147483647) (hc : c ≤ 1000) (hi : IV2 c σ n nb nd P ps De Cf) (hD : DAY σ) : jPP c (fy_133 1 x) (fy_133 1 x) jRI σ := by
  refine jPP_of (V := jvI) (ca_91 h0 hc hi) hD (fun o s h => jpubs (fun c η H ρ => jm_91 H x ρ) hD h) ?_ ?_ jV1
  · intro o s ok h
    unfold fy_133
    rw [gq_R (by omega) (by omega), if_neg (by decide), if_pos rfl]
    rw [h]
    rcases o with r | E
    · rfl
    · rcases ok with rfl | rfl <;> rfl
  · intro o s ok h
    unfold fy_133
    rw [gq_R (by omega) (by omega), if_neg (by decide), if_pos rfl]
    rw [h]
    rcases o with r | E
    · rfl
    · rcases ok with rfl | rfl <;> rfl
theorem pp_133_2 {x : Int} (h0 : -2147483648 ≤ x ∧ x ≤ 2147483647) (hc : c ≤ 1000) (hi : IV2 c σ n nb nd P ps De Cf) (hD : DAY σ) : jPP c (fy_133 2 x) (fy_133 2 x) jRI σ := by
  refine jPP_of (V := jvI) (ca_94 h0 hc hi) hD (fun o s h => jpubs (fun c η H ρ => jm_94 H x ρ) hD h) ?_ ?_ jV1
  · intro o s ok h
    unfold fy_133
    rw [gq_R (by omega) (by omega), if_neg (by decide), if_neg (by decide), if_pos rfl]
    rw [h]
    rcases o with r | E
    · rfl
    · rcases ok with rfl | rfl <;> rfl
  · intro o s ok h
    unfold fy_133
    rw [gq_R (by omega) (by omega), if_neg (by decide), if_neg (by decide), if_pos rfl]
    rw [h]
    rcases o with r | E
    · rfl
    · rcases ok with rfl | rfl <;> rfl
theorem pp_133_3 {x : Int} (h0 : -2147483648 ≤ x ∧ x ≤ 2147483647) (hc : c ≤ 1000) (hi : IV2 c σ n nb nd P ps De Cf) (hD : DAY σ) : jPP c (fy_133 3 x) (fy_133 3 x) jRI σ := by
  refine jPP_of (V := jvZ) (ca_96 h0 hc hi) hD (fun o s h => jpubs (fun c η H ρ => jm_96 H x ρ) hD h) ?_ ?_ jV2
  · intro o s ok h
    unfold fy_133
    rw [gq_R (by omega) (by omega), if_neg (by decide), if_neg (by decide), if_neg (by decide), if_pos rfl]
    rw [h]
    rcases o with r | E
    · exact jZ ok
    · rcases ok with rfl | rfl <;> rfl
  · intro o s ok h
    unfold fy_133
    rw [gq_R (by omega) (by omega), if_neg (by decide), if_neg (by decide), if_neg (by decide), if_pos rfl]
    rw [h]
    rcases o with r | E
    · exact jZ ok
    · rcases ok with rfl | rfl <;> rfl
theorem pp_133_4 {x : Int} (h0 : -2147483648 ≤ x ∧ x ≤ 2147483647) (hc : c ≤ 1000) (hi : IV2 c σ n nb nd P ps De Cf) (hD : DAY σ) : jPP c (fy_133 4 x) (fy_133 4 x) jRI σ := by
  refine jPP_of (V := jvI) (ca_100 h0 hc hi) hD (fun o s h => jpubs (fun c η H ρ => jm_100 H x ρ) hD h) ?_ ?_ jV1
  · intro o s ok h
    unfold fy_133
    rw [gq_R (by omega) (by omega), if_neg (by decide), if_neg (by decide), if_neg (by decide), if_neg (by decide), if_pos rfl]
    rw [h]
    rcases o with r | E
    · rfl
    · rcases ok with rfl | rfl <;> rfl
  · intro o s ok h
    unfold fy_133
    rw [gq_R (by omega) (by omega), if_neg (by decide), if_neg (by decide), if_neg (by decide), if_neg (by decide), if_pos rfl]
    rw [h]
    rcases o with r | E
    · rfl
    · rcases ok with rfl | rfl <;> rfl
theorem pp_133_5 {x : Int} (h0 : -2147483648 ≤ x ∧ x ≤ 2147483647) (hc : c ≤ 1000) (hi : IV2 c σ n nb nd P ps De Cf) (hD : DAY σ) : jPP c (fy_133 5 x) (fy_133 5 x) jRI σ := by
  refine jPP_of (V := jvI) (ca_101 h0 hc hi) hD (fun o s h => jpubs (fun c η H ρ => jm_101 H x ρ) hD h) ?_ ?_ jV1
  · intro o s ok h
    unfold fy_133
    rw [gq_R (by omega) (by omega), if_neg (by decide), if_neg (by decide), if_neg (by decide), if_neg (by decide), if_neg (by decide), if_pos rfl]
    rw [h]
    rcases o with r | E
    · rfl
    · rcases ok with rfl | rfl <;> rfl
  · intro o s ok h
    unfold fy_133
    rw [gq_R (by omega) (by omega), if_neg (by decide), if_neg (by decide), if_neg (by decide), if_neg (by decide), if_neg (by decide), if_pos rfl]
    rw [h]
    rcases o with r | E
    · rfl
    · rcases ok with rfl | rfl <;> rfl
theorem pp_133_6 {x : Int} (h0 : -2147483648 ≤ x ∧ x ≤ 2147483647) (hc : c ≤ 1000) (hi : IV2 c σ n nb nd P ps De Cf) (hD : DAY σ) : jPP c (fy_133 6 x) (fy_133 6 x) jRI σ := by
  refine jPP_of (V := jvI) (ca_102 h0 hc hi) hD (fun o s h => jpubs (fun c η H ρ => jm_102 H x ρ) hD h) ?_ ?_ jV1
  · intro o s ok h
    unfold fy_133
    rw [gq_R (by omega) (by omega), if_neg (by decide), if_neg (by decide), if_neg (by decide), if_neg (by decide), if_neg (by decide), if_neg (by decide), if_pos rfl]
    rw [h]
    rcases o with r | E
    · rfl
    · rcases ok with rfl | rfl <;> rfl
  · intro o s ok h
    unfold fy_133
    rw [gq_R (by omega) (by omega), if_neg (by decide), if_neg (by decide), if_neg (by decide), if_neg (by decide), if_neg (by decide), if_neg (by decide), if_pos rfl]
    rw [h]
    rcases o with r | E
    · rfl
    · rcases ok with rfl | rfl <;> rfl
theorem pp_133_7 {x : Int} (h0 : -2147483648 ≤ x ∧ x ≤ 2147483647) (hc : c ≤ 1000) (hi : IV2 c σ n nb nd P ps De Cf) (hD : DAY σ) : jPP c (fy_133 7 x) (fy_133 7 x) jRI σ := by
  refine jPP_of (V := jvI) (ca_107 h0 hc hi) hD (fun o s h => jpubs (fun c η H ρ => jm_107 H x ρ) hD h) ?_ ?_ jV1
  · intro o s ok h
    unfold fy_133
    rw [gq_R (by omega) (by omega), if_neg (by decide), if_neg (by decide), if_neg (by decide), if_neg (by decide), if_neg (by decide), if_neg (by decide), if_neg (by decide), if_pos rfl]
    rw [h]
    rcases o with r | E
    · rfl
    · rcases ok with rfl | rfl <;> rfl
  · intro o s ok h
    unfold fy_133
    rw [gq_R (by omega) (by omega), if_neg (by decide), if_neg (by decide), if_neg (by decide), if_neg (by decide), if_neg (by decide), if_neg (by decide), if_neg (by decide), if_pos rfl]
    rw [h]
    rcases o with r | E
    · rfl
    · rcases ok with rfl | rfl <;> rfl
theorem pp_133_8 {x : Int} (h0 : -2147483648 ≤ x ∧ x ≤ 2147483647) (hc : c ≤ 1000) (hi : IV2 c σ n nb nd P ps De Cf) (hD : DAY σ) : jPP c (fy_133 8 x) (fy_133 8 x) jRI σ := by
  refine jPP_of (V := jvI) (ca_88 h0 hc hi) hD (fun o s h => jpubs (fun c η H ρ => jm_88 H x ρ) hD h) ?_ ?_ jV1
  · intro o s ok h
    unfold fy_133
    rw [gq_R (by omega) (by omega), if_neg (by decide), if_neg (by decide), if_neg (by decide), if_neg (by decide), if_neg (by decide), if_neg (by decide), if_neg (by decide), if_neg (by decide), if_pos rfl]
    rw [h]
    rcases o with r | E
    · rfl
    · rcases ok with rfl | rfl <;> rfl
  · intro o s ok h
    unfold fy_133
    rw [gq_R (by omega) (by omega), if_neg (by decide), if_neg (by decide), if_neg (by decide), if_neg (by decide), if_neg (by decide), if_neg (by decide), if_neg (by decide), if_neg (by decide), if_pos rfl]
    rw [h]
    rcases o with r | E
    · rfl
    · rcases ok with rfl | rfl <;> rfl
theorem pp_133_9 {x : Int} (h0 : -2147483648 ≤ x ∧ x ≤ 2147483647) (hc : c ≤ 1000) (hi : IV2 c σ n nb nd P ps De Cf) (hD : DAY σ) : jPP c (fy_133 9 x) (fy_133 9 x) jRI σ := by
  refine jPP_of (V := jvI) (ca_105 h0 hc hi) hD (fun o s h => jpubs (fun c η H ρ => jm_105 H x ρ) hD h) ?_ ?_ jV1
  · intro o s ok h
    unfold fy_133
    rw [gq_R (by omega) (by omega), if_neg (by decide), if_neg (by decide), if_neg (by decide), if_neg (by decide), if_neg (by decide), if_neg (by decide), if_neg (by decide), if_neg (by decide), if_neg (by decide), if_pos rfl]
    rw [h]
    rcases o with r | E
    · rfl
    · rcases ok with rfl | rfl <;> rfl
  · intro o s ok h
    unfold fy_133
    rw [gq_R (by omega) (by omega), if_neg (by decide), if_neg (by decide), if_neg (by decide), if_neg (by decide), if_neg (by decide), if_neg (by decide), if_neg (by decide), if_neg (by decide), if_neg (by decide), if_pos rfl]
    rw [h]
    rcases o with r | E
    · rfl
    · rcases ok with rfl | rfl <;> rfl
theorem pp_133_10 {x : Int} (h0 : -2147483648 ≤ x ∧ x ≤ 2147483647) (hc : c ≤ 1000) (hi : IV2 c σ n nb nd P ps De Cf) (hD : DAY σ) : jPP c (fy_133 10 x) (fy_133 10 x) jRI σ := by
  refine jPP_of (V := jvI) (ca_106 h0 hc hi) hD (fun o s h => jpubs (fun c η H ρ => jm_106 H x ρ) hD h) ?_ ?_ jV1
  · intro o s ok h
    unfold fy_133
    rw [gq_R (by omega) (by omega), if_neg (by decide), if_neg (by decide), if_neg (by decide), if_neg (by decide), if_neg (by decide), if_neg (by decide), if_neg (by decide), if_neg (by decide), if_neg (by decide), if_neg (by decide)]
    rw [h]
    rcases o with r | E
    · rfl
    · rcases ok with rfl | rfl <;> rfl
  · intro o s ok h
    unfold fy_133
    rw [gq_R (by omega) (by omega), if_neg (by decide), if_neg (by decide), if_neg (by decide), if_neg (by decide), if_neg (by decide), if_neg (by decide), if_neg (by decide), if_neg (by decide), if_neg (by decide), if_neg (by decide)]
    rw [h]
    rcases o with r | E
    · rfl
    · rcases ok with rfl | rfl <;> rfl
theorem pp_134 {x : Int} {y : Int} (h0 : -2147483648 ≤ x ∧ x ≤ 2147483647) (h1 : -2147483648 ≤ y ∧ y ≤ 2147483647) (hc : c ≤ 1000) (hi : IV2 c σ n nb nd P ps De Cf) (hD : DAY σ) : jPP c (fy_134 x y) (fy_134 x y) jRI σ := by
  refine jPP_of (V := jvI) (ca_90 h0 h1 hc hi) hD (fun o s h => jpubs (fun c η H ρ => jm_90 H x y ρ) hD h) ?_ ?_ jV1
  · intro o s ok h
    unfold fy_134
    rw [h]
    rcases o with r | E
    · rfl
    · rcases ok with rfl | rfl <;> rfl
  · intro o s ok h
    unfold fy_134
    rw [h]
    rcases o with r | E
    · rfl
    · rcases ok with rfl | rfl <;> rfl
theorem pp_135 {x : Int} (h0 : -2147483648 ≤ x ∧ x ≤ 2147483647) (hc : c ≤ 1000) (hi : IV2 c σ n nb nd P ps De Cf) (hD : DAY σ) : jPP c (fy_135 x) (fy_135 x) jRI σ := by
  refine jPP_of (V := jvI) (ca_109 h0 hc hi) hD (fun o s h => jpubs (fun c η H ρ => jm_109 H x ρ) hD h) ?_ ?_ jV1
  · intro o s ok h
    unfold fy_135
    rw [h]
    rcases o with r | E
    · rfl
    · rcases ok with rfl | rfl <;> rfl
  · intro o s ok h
    unfold fy_135
    rw [h]
    rcases o with r | E
    · rfl
    · rcases ok with rfl | rfl <;> rfl
theorem pp_129_1 {x z : Int} (h0 : -2147483648 ≤ x ∧ x ≤ 2147483647) (h1 : z = 0 ∨ z = 1) (hc : c ≤ 1000) (hi : IV2 c σ n nb nd P ps De Cf) (hD : DAY σ) : jPP c (fy_129 1 x z) (fy_129 1 x z) jRI σ := by
  obtain ⟨u, hu⟩ : ∃ u : Bool, ib u = z := by
    rcases h1 with rfl | rfl
    · exact ⟨false, rfl⟩
    · exact ⟨true, rfl⟩
  refine jPP_of (V := jvI) (ca_87 u h0 hc hi) hD (fun o s h => jpubs (fun c η H ρ => jm_87 H x (ib u) ρ) hD h) ?_ ?_ jV1
  · intro o s ok h
    unfold fy_129
    rw [gq_R (by omega) (by omega), if_neg (by decide), if_pos rfl, gq_R (by omega) (by omega)]
    rw [hu] at h
    rcases h1 with rfl | rfl
    · rw [if_neg (by decide), h]
      rcases o with r | E
      · rfl
      · rcases ok with rfl | rfl | rfl <;> rfl
    · rw [if_pos rfl, h]
      rcases o with r | E
      · rfl
      · rcases ok with rfl | rfl | rfl <;> rfl
  · intro o s ok h
    unfold fy_129
    rw [gq_R (by omega) (by omega), if_neg (by decide), if_pos rfl, gq_R (by omega) (by omega)]
    rw [hu] at h
    rcases h1 with rfl | rfl
    · rw [if_neg (by decide), h]
      rcases o with r | E
      · rfl
      · rcases ok with rfl | rfl | rfl <;> rfl
    · rw [if_pos rfl, h]
      rcases o with r | E
      · rfl
      · rcases ok with rfl | rfl | rfl <;> rfl
theorem pp_128_1 {x : Int} (h0 : 0 ≤ x ∧ x ≤ σ 1 9) (h9 : σ 1 9 ≤ 1000) (hc : c ≤ 1000) (hi : IV2 c σ n nb nd P ps De Cf) (hD : DAY σ) : jPP c (fy_128 1 x) (fy_128 1 (2 * x)) jRI σ := by
  refine jPP_of (V := jvI) (ca_81 (x := x) (by omega) hc hi) hD (fun o s h => jd_birth h0.1 h0.2 h9 (by have := hi.1.1; rw [hi.2.2.2.1.1]; omega) hD h) ?_ ?_ jV1
  · intro o s ok h
    unfold fy_128
    rw [gq_R (by omega) (by omega), if_neg (by decide), if_pos rfl, h]
    rcases o with r | E
    · rfl
    · rcases ok with rfl | rfl | rfl <;> rfl
  · intro o s ok h
    unfold fy_128
    rw [gq_R (by omega) (by omega), if_neg (by decide), if_pos rfl, h]
    rcases o with r | E
    · rfl
    · rcases ok with rfl | rfl | rfl <;> rfl
theorem pp_128_2 {x : Int} (h0 : -2147483648 ≤ x ∧ x ≤ 2147483647) (hc : c ≤ 1000) (hi : IV2 c σ n nb nd P ps De Cf) (hD : DAY σ) : jPP c (fy_128 2 x) (fy_128 2 x) jRI σ := by
  refine jPP_of (V := jvI) (ca_82 h0 hc hi) hD (fun o s h => jd_death h0 hi.1.1 hi.2.2.2.1.1 ⟨hi.2.2.1.2.1, hi.2.2.1.2.2⟩ hD h) ?_ ?_ jV1
  · intro o s ok h
    unfold fy_128
    rw [gq_R (by omega) (by omega), if_neg (by decide), if_neg (by decide), if_pos rfl, h]
    rcases o with r | E
    · rfl
    · rcases ok with rfl | rfl | rfl <;> rfl
  · intro o s ok h
    unfold fy_128
    rw [gq_R (by omega) (by omega), if_neg (by decide), if_neg (by decide), if_pos rfl, h]
    rcases o with r | E
    · rfl
    · rcases ok with rfl | rfl | rfl <;> rfl
end CA2
