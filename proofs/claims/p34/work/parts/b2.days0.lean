section JJ0
theorem jm_32 {δ : gb_S} {c : Int} {η : gb_S} (H : DHd c δ η) (a0 : Nat) (x1 : Int) (ha0 : 5 ≤ a0) (ρ : gb_S) : fx_32 a0 x1 (Jd η ρ) = jop (Jd η) (jhm δ (fx_32 a0 x1) ρ) := by
  have H1 := H.one
  show _ = jop (Jd η) (fx_32 a0 x1 (Jd δ ρ))
  unfold fx_32
  simp (disch := omega) only [Jd_rd, Jd_up, Jd_fi, Jd_cp, Jd_J, gc_jop, jop_gf, jop_gc, jop_q, jop_i, jop_s, jop_n, jop_j]
theorem jm_123 {δ : gb_S} {c : Int} {η : gb_S} (H : DHd c δ η) (x0 : Int) (x1 : Int) (ρ : gb_S) : fx_123 x0 x1 (Jd η ρ) = jop (Jd η) (jhm δ (fx_123 x0 x1) ρ) := by
  have H1 := H.one
  show _ = jop (Jd η) (fx_123 x0 x1 (Jd δ ρ))
  unfold fx_123
  simp (disch := omega) only [Jd_rd, Jd_up, Jd_fi, Jd_cp, Jd_J, gc_jop, jop_gf, jop_gc, jop_q, jop_i, jop_s, jop_n, jop_j]
theorem jm_28 {δ : gb_S} {c : Int} {η : gb_S} (H : DHd c δ η) (x1 : Int) (ρ : gb_S) : fx_28 x1 (Jd η ρ) = jop (Jd η) (jhm δ (fx_28 x1) ρ) := by
  have H1 := H.one
  show _ = jop (Jd η) (fx_28 x1 (Jd δ ρ))
  unfold fx_28
  simp (disch := omega) only [Jd_rd, Jd_up, Jd_fi, Jd_cp, Jd_J, gc_jop, jop_gf, jop_gc, jop_q, jop_i, jop_s, jop_n, jop_j]
end JJ0
