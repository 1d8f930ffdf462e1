section JJ1
theorem jm_71 {δ : gb_S} {c : Int} {η : gb_S} (H : DHd c δ η) (a0 : Nat) (x1 : Int) (ha0 : 5 ≤ a0) (ρ : gb_S) : fx_71 a0 x1 (Jd η ρ) = jop (Jd η) (jhm δ (fx_71 a0 x1) ρ) := by
  have H1 := H.one
  show _ = jop (Jd η) (fx_71 a0 x1 (Jd δ ρ))
  unfold fx_71
  simp (disch := omega) only [Jd_rd, Jd_up, Jd_fi, Jd_cp, Jd_J, gc_jop, jop_gf, jop_gc, jop_q, jop_i, jop_s, jop_n, jop_j]
theorem jm_72 {δ : gb_S} {c : Int} {η : gb_S} (H : DHd c δ η) (a0 : Nat) (x1 : Int) (ha0 : 5 ≤ a0) (ρ : gb_S) : fx_72 a0 x1 (Jd η ρ) = jop (Jd η) (jhm δ (fx_72 a0 x1) ρ) := by
  have H1 := H.one
  show _ = jop (Jd η) (fx_72 a0 x1 (Jd δ ρ))
  unfold fx_72
  simp (disch := omega) only [Jd_rd, Jd_up, Jd_fi, Jd_cp, Jd_J, gc_jop, jop_gf, jop_gc, jop_q, jop_i, jop_s, jop_n, jop_j]
theorem jn_77_3 (k : Nat) {δ : gb_S} : ∀ (c : Int) (η : gb_S), DHd c δ η → ∀ (x0 : Int) (x2 : Int) (x4 : Int) (ρ : gb_S), fx_77_3 k x0 x2 x4 (Jd η ρ) = jop (Jd η) (jhm δ (fx_77_3 k x0 x2 x4) ρ) := by
  induction k with
  | zero => intros; rfl
  | succ k ih =>
    intro c η H x0 x2 x4 ρ
    have H1 := H.one
    show _ = jop (Jd η) (fx_77_3 (k + 1) x0 x2 x4 (Jd δ ρ))
    rw [fx_77_3, fx_77_3]
    simp (disch := omega) only [Jd_rd, Jd_up, Jd_fi, Jd_cp, Jd_J, gc_jop, jop_gf, jop_gc, jop_q, jop_i, jop_s, jop_n, jop_j, (ih c η H), (ih 1 δ H1)]
theorem jm_77_3 (k : Nat) {δ : gb_S} {c : Int} {η : gb_S} (H : DHd c δ η) (x0 : Int) (x2 : Int) (x4 : Int) (ρ : gb_S) : fx_77_3 k x0 x2 x4 (Jd η ρ) = jop (Jd η) (jhm δ (fx_77_3 k x0 x2 x4) ρ) := jn_77_3 k c η H x0 x2 x4 ρ
theorem jm_77 {δ : gb_S} {c : Int} {η : gb_S} (H : DHd c δ η) (x0 : Int) (x2 : Int) (ρ : gb_S) : fx_77 x0 x2 (Jd η ρ) = jop (Jd η) (jhm δ (fx_77 x0 x2) ρ) := by
  have H1 := H.one
  show _ = jop (Jd η) (fx_77 x0 x2 (Jd δ ρ))
  unfold fx_77
  simp (disch := omega) only [Jd_rd, Jd_up, Jd_fi, Jd_cp, Jd_J, gc_jop, jop_gf, jop_gc, jop_q, jop_i, jop_s, jop_n, jop_j, (jm_77_3 _ H), (jm_77_3 _ H1)]
theorem jm_73 {δ : gb_S} {c : Int} {η : gb_S} (H : DHd c δ η) (a0 : Nat) (x1 : Int) (x2 : Int) (x4 : Int) (ha0 : 5 ≤ a0) (ρ : gb_S) : fx_73 a0 x1 x2 x4 (Jd η ρ) = jop (Jd η) (jhm δ (fx_73 a0 x1 x2 x4) ρ) := by
  have H1 := H.one
  show _ = jop (Jd η) (fx_73 a0 x1 x2 x4 (Jd δ ρ))
  unfold fx_73
  simp (disch := omega) only [Jd_rd, Jd_up, Jd_fi, Jd_cp, Jd_J, gc_jop, jop_gf, jop_gc, jop_q, jop_i, jop_s, jop_n, jop_j, (jm_77 H), (jm_77 H1)]
theorem jm_193 {δ : gb_S} {c : Int} {η : gb_S} (H : DHd c δ η) (x0 : Int) (ρ : gb_S) : fx_193 x0 (Jd η ρ) = jop (Jd η) (jhm δ (fx_193 x0) ρ) := by
  have H1 := H.one
  show _ = jop (Jd η) (fx_193 x0 (Jd δ ρ))
  unfold fx_193
  simp (disch := omega) only [Jd_rd, Jd_up, Jd_fi, Jd_cp, Jd_J, gc_jop, jop_gf, jop_gc, jop_q, jop_i, jop_s, jop_n, jop_j]
theorem jn_2_30 (k : Nat) {δ : gb_S} : ∀ (c : Int) (η : gb_S), DHd c δ η → ∀ (x1 : Int) (x3 : Int) (x4 : Int) (x6 : Int) (ρ : gb_S), fx_2_30 k x1 x3 x4 x6 (Jd η ρ) = jop (Jd η) (jhm δ (fx_2_30 k x1 x3 x4 x6) ρ) := by
  induction k with
  | zero => intros; rfl
  | succ k ih =>
    intro c η H x1 x3 x4 x6 ρ
    have H1 := H.one
    show _ = jop (Jd η) (fx_2_30 (k + 1) x1 x3 x4 x6 (Jd δ ρ))
    rw [fx_2_30, fx_2_30]
    simp (disch := omega) only [Jd_rd, Jd_up, Jd_fi, Jd_cp, Jd_J, gc_jop, jop_gf, jop_gc, jop_q, jop_i, jop_s, jop_n, jop_j, (jm_123 H), (jm_123 H1), (ih c η H), (ih 1 δ H1), (jm_71 H), (jm_71 H1), (jm_73 H), (jm_73 H1)]
theorem jm_2_30 (k : Nat) {δ : gb_S} {c : Int} {η : gb_S} (H : DHd c δ η) (x1 : Int) (x3 : Int) (x4 : Int) (x6 : Int) (ρ : gb_S) : fx_2_30 k x1 x3 x4 x6 (Jd η ρ) = jop (Jd η) (jhm δ (fx_2_30 k x1 x3 x4 x6) ρ) := jn_2_30 k c η H x1 x3 x4 x6 ρ
theorem jm_2 {δ : gb_S} {c : Int} {η : gb_S} (H : DHd c δ η) (x1 : Int) (a2 : Nat) (ha2 : 5 ≤ a2) (ρ : gb_S) : fx_2 x1 a2 (Jd η ρ) = jop (Jd η) (jhm δ (fx_2 x1 a2) ρ) := by
  have H1 := H.one
  show _ = jop (Jd η) (fx_2 x1 a2 (Jd δ ρ))
  unfold fx_2
  simp (disch := omega) only [Jd_rd, Jd_up, Jd_fi, Jd_cp, Jd_J, gc_jop, jop_gf, jop_gc, jop_q, jop_i, jop_s, jop_n, jop_j, (jm_32 H), (jm_32 H1), (jm_72 H), (jm_72 H1), (jm_193 H), (jm_193 H1), (jm_2_30 _ H), (jm_2_30 _ H1)]
theorem jm_6 {δ : gb_S} {c : Int} {η : gb_S} (H : DHd c δ η) (x1 : Int) (ρ : gb_S) : fx_6 x1 (Jd η ρ) = jop (Jd η) (jhm δ (fx_6 x1) ρ) := by
  have H1 := H.one
  show _ = jop (Jd η) (fx_6 x1 (Jd δ ρ))
  unfold fx_6
  simp (disch := omega) only [Jd_rd, Jd_up, Jd_fi, Jd_cp, Jd_J, gc_jop, jop_gf, jop_gc, jop_q, jop_i, jop_s, jop_n, jop_j, (jm_123 H), (jm_123 H1), (jm_193 H), (jm_193 H1), (jm_73 H), (jm_73 H1)]
theorem jm_30 {δ : gb_S} {c : Int} {η : gb_S} (H : DHd c δ η) (a0 : Nat) (x1 : Int) (ha0 : 5 ≤ a0) (ρ : gb_S) : fx_30 a0 x1 (Jd η ρ) = jop (Jd η) (jhm δ (fx_30 a0 x1) ρ) := by
  have H1 := H.one
  show _ = jop (Jd η) (fx_30 a0 x1 (Jd δ ρ))
  unfold fx_30
  simp (disch := omega) only [Jd_rd, Jd_up, Jd_fi, Jd_cp, Jd_J, gc_jop, jop_gf, jop_gc, jop_q, jop_i, jop_s, jop_n, jop_j]
theorem jm_31 {δ : gb_S} {c : Int} {η : gb_S} (H : DHd c δ η) (a0 : Nat) (x1 : Int) (ha0 : 5 ≤ a0) (ρ : gb_S) : fx_31 a0 x1 (Jd η ρ) = jop (Jd η) (jhm δ (fx_31 a0 x1) ρ) := by
  have H1 := H.one
  show _ = jop (Jd η) (fx_31 a0 x1 (Jd δ ρ))
  unfold fx_31
  simp (disch := omega) only [Jd_rd, Jd_up, Jd_fi, Jd_cp, Jd_J, gc_jop, jop_gf, jop_gc, jop_q, jop_i, jop_s, jop_n, jop_j]
theorem jm_34 {δ : gb_S} {c : Int} {η : gb_S} (H : DHd c δ η) (x0 : Int) (ρ : gb_S) : fx_34 x0 (Jd η ρ) = jop (Jd η) (jhm δ (fx_34 x0) ρ) := by
  have H1 := H.one
  show _ = jop (Jd η) (fx_34 x0 (Jd δ ρ))
  unfold fx_34
  simp (disch := omega) only [Jd_rd, Jd_up, Jd_fi, Jd_cp, Jd_J, gc_jop, jop_gf, jop_gc, jop_q, jop_i, jop_s, jop_n, jop_j]
theorem jm_33 {δ : gb_S} {c : Int} {η : gb_S} (H : DHd c δ η) (a0 : Nat) (x1 : Int) (ha0 : 5 ≤ a0) (ρ : gb_S) : fx_33 a0 x1 (Jd η ρ) = jop (Jd η) (jhm δ (fx_33 a0 x1) ρ) := by
  have H1 := H.one
  show _ = jop (Jd η) (fx_33 a0 x1 (Jd δ ρ))
  unfold fx_33
  simp (disch := omega) only [Jd_rd, Jd_up, Jd_fi, Jd_cp, Jd_J, gc_jop, jop_gf, jop_gc, jop_q, jop_i, jop_s, jop_n, jop_j, (jm_30 H), (jm_30 H1), (jm_34 H), (jm_34 H1), (jm_31 H), (jm_31 H1)]
theorem jm_9 {δ : gb_S} {c : Int} {η : gb_S} (H : DHd c δ η) (a1 : Nat) (x2 : Int) (ha1 : 5 ≤ a1) (ρ : gb_S) : fx_9 a1 x2 (Jd η ρ) = jop (Jd η) (jhm δ (fx_9 a1 x2) ρ) := by
  have H1 := H.one
  show _ = jop (Jd η) (fx_9 a1 x2 (Jd δ ρ))
  unfold fx_9
  simp (disch := omega) only [Jd_rd, Jd_up, Jd_fi, Jd_cp, Jd_J, gc_jop, jop_gf, jop_gc, jop_q, jop_i, jop_s, jop_n, jop_j, (jm_123 H), (jm_123 H1), (jm_33 H), (jm_33 H1), (jm_30 H), (jm_30 H1), (jm_31 H), (jm_31 H1)]
theorem jm_7_19 {δ : gb_S} {c : Int} {η : gb_S} (H : DHd c δ η) (a2 : Nat) (a3 : Nat) (y0 : Int) (ha2 : 5 ≤ a2) (ha3 : 5 ≤ a3) (ρ : gb_S) : fx_7_19 a2 a3 y0 (Jd η ρ) = jop (Jd η) (jhm δ (fx_7_19 a2 a3 y0) ρ) := by
  have H1 := H.one
  show _ = jop (Jd η) (fx_7_19 a2 a3 y0 (Jd δ ρ))
  unfold fx_7_19
  simp (disch := omega) only [Jd_rd, Jd_up, Jd_fi, Jd_cp, Jd_J, gc_jop, jop_gf, jop_gc, jop_q, jop_i, jop_s, jop_n, jop_j, (jm_8 H), (jm_8 H1), (jm_9 H), (jm_9 H1)]
theorem jm_7 {δ : gb_S} {c : Int} {η : gb_S} (H : DHd c δ η) (a2 : Nat) (a3 : Nat) (ha2 : 5 ≤ a2) (ha3 : 5 ≤ a3) (ρ : gb_S) : fx_7 a2 a3 (Jd η ρ) = jop (Jd η) (jhm δ (fx_7 a2 a3) ρ) := by
  have H1 := H.one
  show _ = jop (Jd η) (fx_7 a2 a3 (Jd δ ρ))
  unfold fx_7
  simp (disch := omega) only [Jd_rd, Jd_up, Jd_fi, Jd_cp, Jd_J, gc_jop, jop_gf, jop_gc, jop_q, jop_i, jop_s, jop_n, jop_j, (jm_7_19 H), (jm_7_19 H1)]
theorem jm_13 {δ : gb_S} {c : Int} {η : gb_S} (H : DHd c δ η) (a0 : Nat) (x1 : Int) (ha0 : 5 ≤ a0) (ρ : gb_S) : fx_13 a0 x1 (Jd η ρ) = jop (Jd η) (jhm δ (fx_13 a0 x1) ρ) := by
  have H1 := H.one
  show _ = jop (Jd η) (fx_13 a0 x1 (Jd δ ρ))
  unfold fx_13
  simp (disch := omega) only [Jd_rd, Jd_up, Jd_fi, Jd_cp, Jd_J, gc_jop, jop_gf, jop_gc, jop_q, jop_i, jop_s, jop_n, jop_j]
theorem jm_11 {δ : gb_S} {c : Int} {η : gb_S} (H : DHd c δ η) (a1 : Nat) (x2 : Int) (ha1 : 5 ≤ a1) (ρ : gb_S) : fx_11 a1 x2 (Jd η ρ) = jop (Jd η) (jhm δ (fx_11 a1 x2) ρ) := by
  have H1 := H.one
  show _ = jop (Jd η) (fx_11 a1 x2 (Jd δ ρ))
  unfold fx_11
  simp (disch := omega) only [Jd_rd, Jd_up, Jd_fi, Jd_cp, Jd_J, gc_jop, jop_gf, jop_gc, jop_q, jop_i, jop_s, jop_n, jop_j, (jm_123 H), (jm_123 H1), (jm_13 H), (jm_13 H1)]
theorem jm_69 {δ : gb_S} {c : Int} {η : gb_S} (H : DHd c δ η) (a0 : Nat) (ha0 : 5 ≤ a0) (ρ : gb_S) : fx_69 a0 (Jd η ρ) = jop (Jd η) (jhm δ (fx_69 a0) ρ) := by
  have H1 := H.one
  show _ = jop (Jd η) (fx_69 a0 (Jd δ ρ))
  unfold fx_69
  simp (disch := omega) only [Jd_rd, Jd_up, Jd_fi, Jd_cp, Jd_J, gc_jop, jop_gf, jop_gc, jop_q, jop_i, jop_s, jop_n, jop_j]
theorem jm_10_121 {δ : gb_S} {k89 : Nat → Nat → Int → Int → Int → Int → Int → gb_S → Option gb_P} (hk89 : ∀ (c : Int) (η : gb_S), DHd c δ η → ∀ (z0 : Nat) (z1 : Nat) (z2 : Int) (z3 : Int) (z4 : Int) (z5 : Int) (z6 : Int) (_ : 5 ≤ z0) (_ : 5 ≤ z1) (ρ : gb_S), k89 z0 z1 z2 z3 z4 z5 z6 (Jd η ρ) = jop (Jd η) (jhm δ (k89 z0 z1 z2 z3 z4 z5 z6) ρ)) {c : Int} {η : gb_S} (H : DHd c δ η) (a1 : Nat) (a2 : Nat) (x3 : Int) (x4 : Int) (x5 : Int) (x6 : Int) (x7 : Int) (ha1 : 5 ≤ a1) (ha2 : 5 ≤ a2) (ρ : gb_S) : fx_10_121 k89 a1 a2 x3 x4 x5 x6 x7 (Jd η ρ) = jop (Jd η) (jhm δ (fx_10_121 k89 a1 a2 x3 x4 x5 x6 x7) ρ) := by
  have H1 := H.one
  show _ = jop (Jd η) (fx_10_121 k89 a1 a2 x3 x4 x5 x6 x7 (Jd δ ρ))
  unfold fx_10_121
  simp (disch := omega) only [Jd_rd, Jd_up, Jd_fi, Jd_cp, Jd_J, gc_jop, jop_gf, jop_gc, jop_q, jop_i, jop_s, jop_n, jop_j, (jm_123 H), (jm_123 H1), (jm_71 H), (jm_71 H1), (jm_72 H), (jm_72 H1), (jm_73 H), (jm_73 H1), (hk89 c η H), (hk89 1 δ H1)]
theorem jn_10_89 (k : Nat) {δ : gb_S} : ∀ (c : Int) (η : gb_S), DHd c δ η → ∀ (a1 : Nat) (a2 : Nat) (x3 : Int) (x4 : Int) (x5 : Int) (x6 : Int) (x7 : Int) (ha1 : 5 ≤ a1) (ha2 : 5 ≤ a2) (ρ : gb_S), fx_10_89 k a1 a2 x3 x4 x5 x6 x7 (Jd η ρ) = jop (Jd η) (jhm δ (fx_10_89 k a1 a2 x3 x4 x5 x6 x7) ρ) := by
  induction k with
  | zero => intros; rfl
  | succ k ih =>
    intro c η H a1 a2 x3 x4 x5 x6 x7 ha1 ha2 ρ
    have H1 := H.one
    show _ = jop (Jd η) (fx_10_89 (k + 1) a1 a2 x3 x4 x5 x6 x7 (Jd δ ρ))
    rw [fx_10_89, fx_10_89]
    simp (disch := omega) only [Jd_rd, Jd_up, Jd_fi, Jd_cp, Jd_J, gc_jop, jop_gf, jop_gc, jop_q, jop_i, jop_s, jop_n, jop_j, (jm_10_121 ih H), (jm_10_121 ih H1), (ih c η H), (ih 1 δ H1), (jm_11 H), (jm_11 H1), (jm_73 H), (jm_73 H1)]
theorem jm_10_89 (k : Nat) {δ : gb_S} {c : Int} {η : gb_S} (H : DHd c δ η) (a1 : Nat) (a2 : Nat) (x3 : Int) (x4 : Int) (x5 : Int) (x6 : Int) (x7 : Int) (ha1 : 5 ≤ a1) (ha2 : 5 ≤ a2) (ρ : gb_S) : fx_10_89 k a1 a2 x3 x4 x5 x6 x7 (Jd η ρ) = jop (Jd η) (jhm δ (fx_10_89 k a1 a2 x3 x4 x5 x6 x7) ρ) := jn_10_89 k c η H a1 a2 x3 x4 x5 x6 x7 ha1 ha2 ρ
theorem jm_10_63 {δ : gb_S} {c : Int} {η : gb_S} (H : DHd c δ η) (a1 : Nat) (a2 : Nat) (x3 : Int) (x4 : Int) (y0 : Int) (ha1 : 5 ≤ a1) (ha2 : 5 ≤ a2) (ρ : gb_S) : fx_10_63 a1 a2 x3 x4 y0 (Jd η ρ) = jop (Jd η) (jhm δ (fx_10_63 a1 a2 x3 x4 y0) ρ) := by
  have H1 := H.one
  show _ = jop (Jd η) (fx_10_63 a1 a2 x3 x4 y0 (Jd δ ρ))
  unfold fx_10_63
  simp (disch := omega) only [Jd_rd, Jd_up, Jd_fi, Jd_cp, Jd_J, gc_jop, jop_gf, jop_gc, jop_q, jop_i, jop_s, jop_n, jop_j, (jm_69 H), (jm_69 H1), (jm_10_89 _ H), (jm_10_89 _ H1)]
theorem jm_10_37 {δ : gb_S} {c : Int} {η : gb_S} (H : DHd c δ η) (a1 : Nat) (a2 : Nat) (x3 : Int) (y0 : Int) (ha1 : 5 ≤ a1) (ha2 : 5 ≤ a2) (ρ : gb_S) : fx_10_37 a1 a2 x3 y0 (Jd η ρ) = jop (Jd η) (jhm δ (fx_10_37 a1 a2 x3 y0) ρ) := by
  have H1 := H.one
  show _ = jop (Jd η) (fx_10_37 a1 a2 x3 y0 (Jd δ ρ))
  unfold fx_10_37
  simp (disch := omega) only [Jd_rd, Jd_up, Jd_fi, Jd_cp, Jd_J, gc_jop, jop_gf, jop_gc, jop_q, jop_i, jop_s, jop_n, jop_j, (jm_10_63 H), (jm_10_63 H1), (jm_123 H), (jm_123 H1)]
theorem jn_10_5 (k : Nat) {δ : gb_S} : ∀ (c : Int) (η : gb_S), DHd c δ η → ∀ (a1 : Nat) (a2 : Nat) (x3 : Int) (x4 : Int) (ha1 : 5 ≤ a1) (ha2 : 5 ≤ a2) (ρ : gb_S), fx_10_5 k a1 a2 x3 x4 (Jd η ρ) = jop (Jd η) (jhm δ (fx_10_5 k a1 a2 x3 x4) ρ) := by
  induction k with
  | zero => intros; rfl
  | succ k ih =>
    intro c η H a1 a2 x3 x4 ha1 ha2 ρ
    have H1 := H.one
    show _ = jop (Jd η) (fx_10_5 (k + 1) a1 a2 x3 x4 (Jd δ ρ))
    rw [fx_10_5, fx_10_5]
    simp (disch := omega) only [Jd_rd, Jd_up, Jd_fi, Jd_cp, Jd_J, gc_jop, jop_gf, jop_gc, jop_q, jop_i, jop_s, jop_n, jop_j, (jm_11 H), (jm_11 H1), (ih c η H), (ih 1 δ H1), (jm_10_37 H), (jm_10_37 H1)]
theorem jm_10_5 (k : Nat) {δ : gb_S} {c : Int} {η : gb_S} (H : DHd c δ η) (a1 : Nat) (a2 : Nat) (x3 : Int) (x4 : Int) (ha1 : 5 ≤ a1) (ha2 : 5 ≤ a2) (ρ : gb_S) : fx_10_5 k a1 a2 x3 x4 (Jd η ρ) = jop (Jd η) (jhm δ (fx_10_5 k a1 a2 x3 x4) ρ) := jn_10_5 k c η H a1 a2 x3 x4 ha1 ha2 ρ
theorem jm_10 {δ : gb_S} {c : Int} {η : gb_S} (H : DHd c δ η) (a1 : Nat) (a2 : Nat) (ha1 : 5 ≤ a1) (ha2 : 5 ≤ a2) (ρ : gb_S) : fx_10 a1 a2 (Jd η ρ) = jop (Jd η) (jhm δ (fx_10 a1 a2) ρ) := by
  have H1 := H.one
  show _ = jop (Jd η) (fx_10 a1 a2 (Jd δ ρ))
  unfold fx_10
  simp (disch := omega) only [Jd_rd, Jd_up, Jd_fi, Jd_cp, Jd_J, gc_jop, jop_gf, jop_gc, jop_q, jop_i, jop_s, jop_n, jop_j, (jm_10_5 _ H), (jm_10_5 _ H1)]
theorem jn_1_39 (k : Nat) {δ : gb_S} : ∀ (c : Int) (η : gb_S), DHd c δ η → ∀ (a2 : Nat) (a3 : Nat) (a4 : Nat) (x5 : Int) (ha2 : 5 ≤ a2) (ha3 : 5 ≤ a3) (ha4 : 5 ≤ a4) (ρ : gb_S), fx_1_39 k a2 a3 a4 x5 (Jd η ρ) = jop (Jd η) (jhm δ (fx_1_39 k a2 a3 a4 x5) ρ) := by
  induction k with
  | zero => intros; rfl
  | succ k ih =>
    intro c η H a2 a3 a4 x5 ha2 ha3 ha4 ρ
    have H1 := H.one
    show _ = jop (Jd η) (fx_1_39 (k + 1) a2 a3 a4 x5 (Jd δ ρ))
    rw [fx_1_39, fx_1_39]
    simp (disch := omega) only [Jd_rd, Jd_up, Jd_fi, Jd_cp, Jd_J, gc_jop, jop_gf, jop_gc, jop_q, jop_i, jop_s, jop_n, jop_j, (jm_28 H), (jm_28 H1), (jm_123 H), (jm_123 H1), (jm_71 H), (jm_71 H1), (jm_2 H), (jm_2 H1), (ih c η H), (ih 1 δ H1), (jm_10 H), (jm_10 H1)]
theorem jm_1_39 (k : Nat) {δ : gb_S} {c : Int} {η : gb_S} (H : DHd c δ η) (a2 : Nat) (a3 : Nat) (a4 : Nat) (x5 : Int) (ha2 : 5 ≤ a2) (ha3 : 5 ≤ a3) (ha4 : 5 ≤ a4) (ρ : gb_S) : fx_1_39 k a2 a3 a4 x5 (Jd η ρ) = jop (Jd η) (jhm δ (fx_1_39 k a2 a3 a4 x5) ρ) := jn_1_39 k c η H a2 a3 a4 x5 ha2 ha3 ha4 ρ
theorem jn_1_17 (k : Nat) {δ : gb_S} : ∀ (c : Int) (η : gb_S), DHd c δ η → ∀ (a2 : Nat) (a3 : Nat) (a4 : Nat) (x5 : Int) (ha2 : 5 ≤ a2) (ha3 : 5 ≤ a3) (ha4 : 5 ≤ a4) (ρ : gb_S), fx_1_17 k a2 a3 a4 x5 (Jd η ρ) = jop (Jd η) (jhm δ (fx_1_17 k a2 a3 a4 x5) ρ) := by
  induction k with
  | zero => intros; rfl
  | succ k ih =>
    intro c η H a2 a3 a4 x5 ha2 ha3 ha4 ρ
    have H1 := H.one
    show _ = jop (Jd η) (fx_1_17 (k + 1) a2 a3 a4 x5 (Jd δ ρ))
    rw [fx_1_17, fx_1_17]
    simp (disch := omega) only [Jd_rd, Jd_up, Jd_fi, Jd_cp, Jd_J, gc_jop, jop_gf, jop_gc, jop_q, jop_i, jop_s, jop_n, jop_j, (jm_6 H), (jm_6 H1), (ih c η H), (ih 1 δ H1), (jm_1_39 _ H), (jm_1_39 _ H1)]
theorem jm_1_17 (k : Nat) {δ : gb_S} {c : Int} {η : gb_S} (H : DHd c δ η) (a2 : Nat) (a3 : Nat) (a4 : Nat) (x5 : Int) (ha2 : 5 ≤ a2) (ha3 : 5 ≤ a3) (ha4 : 5 ≤ a4) (ρ : gb_S) : fx_1_17 k a2 a3 a4 x5 (Jd η ρ) = jop (Jd η) (jhm δ (fx_1_17 k a2 a3 a4 x5) ρ) := jn_1_17 k c η H a2 a3 a4 x5 ha2 ha3 ha4 ρ
theorem jm_1 {δ : gb_S} {c : Int} {η : gb_S} (H : DHd c δ η) (a2 : Nat) (a3 : Nat) (a4 : Nat) (ha2 : 5 ≤ a2) (ha3 : 5 ≤ a3) (ha4 : 5 ≤ a4) (ρ : gb_S) : fx_1 a2 a3 a4 (Jd η ρ) = jop (Jd η) (jhm δ (fx_1 a2 a3 a4) ρ) := by
  have H1 := H.one
  show _ = jop (Jd η) (fx_1 a2 a3 a4 (Jd δ ρ))
  unfold fx_1
  simp (disch := omega) only [Jd_rd, Jd_up, Jd_fi, Jd_cp, Jd_J, gc_jop, jop_gf, jop_gc, jop_q, jop_i, jop_s, jop_n, jop_j, (jm_7 H), (jm_7 H1), (jm_69 H), (jm_69 H1), (jm_1_17 _ H), (jm_1_17 _ H1)]
theorem jm_5 {δ : gb_S} {rec : Int → Nat → Int → gb_S → Option gb_P} (hrec : ∀ (c : Int) (η : gb_S), DHd c δ η → ∀ (z0 : Int) (z1 : Nat) (z2 : Int) (_ : 5 ≤ z1) (ρ : gb_S), rec z0 z1 z2 (Jd η ρ) = jop (Jd η) (jhm δ (rec z0 z1 z2) ρ)) {c : Int} {η : gb_S} (H : DHd c δ η) (x1 : Int) (x2 : Int) (a3 : Nat) (x4 : Int) (ha3 : 5 ≤ a3) (ρ : gb_S) : fx_5 rec x1 x2 a3 x4 (Jd η ρ) = jop (Jd η) (jhm δ (fx_5 rec x1 x2 a3 x4) ρ) := by
  have H1 := H.one
  show _ = jop (Jd η) (fx_5 rec x1 x2 a3 x4 (Jd δ ρ))
  unfold fx_5
  simp (disch := omega) only [Jd_rd, Jd_up, Jd_fi, Jd_cp, Jd_J, gc_jop, jop_gf, jop_gc, jop_q, jop_i, jop_s, jop_n, jop_j, (jm_123 H), (jm_123 H1), (jm_32 H), (jm_32 H1), (jm_193 H), (jm_193 H1), (jm_71 H), (jm_71 H1), (jm_72 H), (jm_72 H1), (jm_73 H), (jm_73 H1), (hrec c η H), (hrec 1 δ H1)]
theorem jn_4 (k : Nat) {δ : gb_S} : ∀ (c : Int) (η : gb_S), DHd c δ η → ∀ (x1 : Int) (a2 : Nat) (x3 : Int) (ha2 : 5 ≤ a2) (ρ : gb_S), fx_4 k x1 a2 x3 (Jd η ρ) = jop (Jd η) (jhm δ (fx_4 k x1 a2 x3) ρ) := by
  induction k with
  | zero => intros; rfl
  | succ k ih =>
    intro c η H x1 a2 x3 ha2 ρ
    have H1 := H.one
    show _ = jop (Jd η) (fx_4 (k + 1) x1 a2 x3 (Jd δ ρ))
    rw [fx_4, fx_4]
    simp (disch := omega) only [Jd_rd, Jd_up, Jd_fi, Jd_cp, Jd_J, gc_jop, jop_gf, jop_gc, jop_q, jop_i, jop_s, jop_n, jop_j, (jm_123 H), (jm_123 H1), (jm_6 H), (jm_6 H1), (jm_30 H), (jm_30 H1), (jm_5 ih H), (jm_5 ih H1), (ih c η H), (ih 1 δ H1), (jm_31 H), (jm_31 H1)]
theorem jm_4 (k : Nat) {δ : gb_S} {c : Int} {η : gb_S} (H : DHd c δ η) (x1 : Int) (a2 : Nat) (x3 : Int) (ha2 : 5 ≤ a2) (ρ : gb_S) : fx_4 k x1 a2 x3 (Jd η ρ) = jop (Jd η) (jhm δ (fx_4 k x1 a2 x3) ρ) := jn_4 k c η H x1 a2 x3 ha2 ρ
theorem jn_3_22 (k : Nat) {δ : gb_S} : ∀ (c : Int) (η : gb_S), DHd c δ η → ∀ (a2 : Nat) (a3 : Nat) (a4 : Nat) (x5 : Int) (ha2 : 5 ≤ a2) (ha3 : 5 ≤ a3) (ha4 : 5 ≤ a4) (ρ : gb_S), fx_3_22 k a2 a3 a4 x5 (Jd η ρ) = jop (Jd η) (jhm δ (fx_3_22 k a2 a3 a4 x5) ρ) := by
  induction k with
  | zero => intros; rfl
  | succ k ih =>
    intro c η H a2 a3 a4 x5 ha2 ha3 ha4 ρ
    have H1 := H.one
    show _ = jop (Jd η) (fx_3_22 (k + 1) a2 a3 a4 x5 (Jd δ ρ))
    rw [fx_3_22, fx_3_22]
    simp (disch := omega) only [Jd_rd, Jd_up, Jd_fi, Jd_cp, Jd_J, gc_jop, jop_gf, jop_gc, jop_q, jop_i, jop_s, jop_n, jop_j, (jm_123 H), (jm_123 H1), (ih c η H), (ih 1 δ H1), (jm_4 _ H), (jm_4 _ H1), (jm_10 H), (jm_10 H1)]
theorem jm_3_22 (k : Nat) {δ : gb_S} {c : Int} {η : gb_S} (H : DHd c δ η) (a2 : Nat) (a3 : Nat) (a4 : Nat) (x5 : Int) (ha2 : 5 ≤ a2) (ha3 : 5 ≤ a3) (ha4 : 5 ≤ a4) (ρ : gb_S) : fx_3_22 k a2 a3 a4 x5 (Jd η ρ) = jop (Jd η) (jhm δ (fx_3_22 k a2 a3 a4 x5) ρ) := jn_3_22 k c η H a2 a3 a4 x5 ha2 ha3 ha4 ρ
theorem jm_3 {δ : gb_S} {c : Int} {η : gb_S} (H : DHd c δ η) (a2 : Nat) (a3 : Nat) (a4 : Nat) (ha2 : 5 ≤ a2) (ha3 : 5 ≤ a3) (ha4 : 5 ≤ a4) (ρ : gb_S) : fx_3 a2 a3 a4 (Jd η ρ) = jop (Jd η) (jhm δ (fx_3 a2 a3 a4) ρ) := by
  have H1 := H.one
  show _ = jop (Jd η) (fx_3 a2 a3 a4 (Jd δ ρ))
  unfold fx_3
  simp (disch := omega) only [Jd_rd, Jd_up, Jd_fi, Jd_cp, Jd_J, gc_jop, jop_gf, jop_gc, jop_q, jop_i, jop_s, jop_n, jop_j, (jm_7 H), (jm_7 H1), (jm_69 H), (jm_69 H1), (jm_3_22 _ H), (jm_3_22 _ H1)]
theorem jm_14 {δ : gb_S} {c : Int} {η : gb_S} (H : DHd c δ η) (a0 : Nat) (x1 : Int) (x2 : Int) (ha0 : 5 ≤ a0) (ρ : gb_S) : fx_14 a0 x1 x2 (Jd η ρ) = jop (Jd η) (jhm δ (fx_14 a0 x1 x2) ρ) := by
  have H1 := H.one
  show _ = jop (Jd η) (fx_14 a0 x1 x2 (Jd δ ρ))
  unfold fx_14
  simp (disch := omega) only [Jd_rd, Jd_up, Jd_fi, Jd_cp, Jd_J, gc_jop, jop_gf, jop_gc, jop_q, jop_i, jop_s, jop_n, jop_j, (jm_13 H), (jm_13 H1)]
theorem jn_18_2 (k : Nat) {δ : gb_S} : ∀ (c : Int) (η : gb_S), DHd c δ η → ∀ (a0 : Nat) (x1 : Int) (x2 : Int) (ha0 : 5 ≤ a0) (ρ : gb_S), fx_18_2 k a0 x1 x2 (Jd η ρ) = jop (Jd η) (jhm δ (fx_18_2 k a0 x1 x2) ρ) := by
  induction k with
  | zero => intros; rfl
  | succ k ih =>
    intro c η H a0 x1 x2 ha0 ρ
    have H1 := H.one
    show _ = jop (Jd η) (fx_18_2 (k + 1) a0 x1 x2 (Jd δ ρ))
    rw [fx_18_2, fx_18_2]
    simp (disch := omega) only [Jd_rd, Jd_up, Jd_fi, Jd_cp, Jd_J, gc_jop, jop_gf, jop_gc, jop_q, jop_i, jop_s, jop_n, jop_j, (ih c η H), (ih 1 δ H1)]
theorem jm_18_2 (k : Nat) {δ : gb_S} {c : Int} {η : gb_S} (H : DHd c δ η) (a0 : Nat) (x1 : Int) (x2 : Int) (ha0 : 5 ≤ a0) (ρ : gb_S) : fx_18_2 k a0 x1 x2 (Jd η ρ) = jop (Jd η) (jhm δ (fx_18_2 k a0 x1 x2) ρ) := jn_18_2 k c η H a0 x1 x2 ha0 ρ
theorem jm_18 {δ : gb_S} {c : Int} {η : gb_S} (H : DHd c δ η) (a0 : Nat) (x1 : Int) (ha0 : 5 ≤ a0) (ρ : gb_S) : fx_18 a0 x1 (Jd η ρ) = jop (Jd η) (jhm δ (fx_18 a0 x1) ρ) := by
  have H1 := H.one
  show _ = jop (Jd η) (fx_18 a0 x1 (Jd δ ρ))
  unfold fx_18
  simp (disch := omega) only [Jd_rd, Jd_up, Jd_fi, Jd_cp, Jd_J, gc_jop, jop_gf, jop_gc, jop_q, jop_i, jop_s, jop_n, jop_j, (jm_18_2 _ H), (jm_18_2 _ H1)]
theorem jm_15 {δ : gb_S} {c : Int} {η : gb_S} (H : DHd c δ η) (a0 : Nat) (x1 : Int) (ha0 : 5 ≤ a0) (ρ : gb_S) : fx_15 a0 x1 (Jd η ρ) = jop (Jd η) (jhm δ (fx_15 a0 x1) ρ) := by
  have H1 := H.one
  show _ = jop (Jd η) (fx_15 a0 x1 (Jd δ ρ))
  unfold fx_15
  simp (disch := omega) only [Jd_rd, Jd_up, Jd_fi, Jd_cp, Jd_J, gc_jop, jop_gf, jop_gc, jop_q, jop_i, jop_s, jop_n, jop_j, (jm_18 H), (jm_18 H1)]
theorem jm_16 {δ : gb_S} {c : Int} {η : gb_S} (H : DHd c δ η) (a0 : Nat) (x1 : Int) (ha0 : 5 ≤ a0) (ρ : gb_S) : fx_16 a0 x1 (Jd η ρ) = jop (Jd η) (jhm δ (fx_16 a0 x1) ρ) := by
  have H1 := H.one
  show _ = jop (Jd η) (fx_16 a0 x1 (Jd δ ρ))
  unfold fx_16
  simp (disch := omega) only [Jd_rd, Jd_up, Jd_fi, Jd_cp, Jd_J, gc_jop, jop_gf, jop_gc, jop_q, jop_i, jop_s, jop_n, jop_j]
theorem jn_17_17 (k : Nat) {δ : gb_S} : ∀ (c : Int) (η : gb_S), DHd c δ η → ∀ (a0 : Nat) (x3 : Int) (ha0 : 5 ≤ a0) (ρ : gb_S), fx_17_17 k a0 x3 (Jd η ρ) = jop (Jd η) (jhm δ (fx_17_17 k a0 x3) ρ) := by
  induction k with
  | zero => intros; rfl
  | succ k ih =>
    intro c η H a0 x3 ha0 ρ
    have H1 := H.one
    show _ = jop (Jd η) (fx_17_17 (k + 1) a0 x3 (Jd δ ρ))
    rw [fx_17_17, fx_17_17]
    simp (disch := omega) only [Jd_rd, Jd_up, Jd_fi, Jd_cp, Jd_J, gc_jop, jop_gf, jop_gc, jop_q, jop_i, jop_s, jop_n, jop_j, (ih c η H), (ih 1 δ H1)]
theorem jm_17_17 (k : Nat) {δ : gb_S} {c : Int} {η : gb_S} (H : DHd c δ η) (a0 : Nat) (x3 : Int) (ha0 : 5 ≤ a0) (ρ : gb_S) : fx_17_17 k a0 x3 (Jd η ρ) = jop (Jd η) (jhm δ (fx_17_17 k a0 x3) ρ) := jn_17_17 k c η H a0 x3 ha0 ρ
theorem jm_17 {δ : gb_S} {c : Int} {η : gb_S} (H : DHd c δ η) (a0 : Nat) (x1 : Int) (ha0 : 5 ≤ a0) (ρ : gb_S) : fx_17 a0 x1 (Jd η ρ) = jop (Jd η) (jhm δ (fx_17 a0 x1) ρ) := by
  have H1 := H.one
  show _ = jop (Jd η) (fx_17 a0 x1 (Jd δ ρ))
  unfold fx_17
  simp (disch := omega) only [Jd_rd, Jd_up, Jd_fi, Jd_cp, Jd_J, gc_jop, jop_gf, jop_gc, jop_q, jop_i, jop_s, jop_n, jop_j, (jm_18 H), (jm_18 H1), (jm_17_17 _ H), (jm_17_17 _ H1)]
theorem jm_20 {δ : gb_S} {c : Int} {η : gb_S} (H : DHd c δ η) (x0 : Int) (a1 : Nat) (a2 : Nat) (x3 : Int) (ha1 : 5 ≤ a1) (ha2 : 5 ≤ a2) (ρ : gb_S) : fx_20 x0 a1 a2 x3 (Jd η ρ) = jop (Jd η) (jhm δ (fx_20 x0 a1 a2 x3) ρ) := by
  have H1 := H.one
  show _ = jop (Jd η) (fx_20 x0 a1 a2 x3 (Jd δ ρ))
  unfold fx_20
  simp (disch := omega) only [Jd_rd, Jd_up, Jd_fi, Jd_cp, Jd_J, gc_jop, jop_gf, jop_gc, jop_q, jop_i, jop_s, jop_n, jop_j, (jm_71 H), (jm_71 H1)]
theorem jn_19_37 (k : Nat) {δ : gb_S} : ∀ (c : Int) (η : gb_S), DHd c δ η → ∀ (a0 : Nat) (a1 : Nat) (a2 : Nat) (x3 : Int) (x4 : Int) (ha0 : 5 ≤ a0) (ha1 : 5 ≤ a1) (ha2 : 5 ≤ a2) (ρ : gb_S), fx_19_37 k a0 a1 a2 x3 x4 (Jd η ρ) = jop (Jd η) (jhm δ (fx_19_37 k a0 a1 a2 x3 x4) ρ) := by
  induction k with
  | zero => intros; rfl
  | succ k ih =>
    intro c η H a0 a1 a2 x3 x4 ha0 ha1 ha2 ρ
    have H1 := H.one
    show _ = jop (Jd η) (fx_19_37 (k + 1) a0 a1 a2 x3 x4 (Jd δ ρ))
    rw [fx_19_37, fx_19_37]
    simp (disch := omega) only [Jd_rd, Jd_up, Jd_fi, Jd_cp, Jd_J, gc_jop, jop_gf, jop_gc, jop_q, jop_i, jop_s, jop_n, jop_j, (jm_15 H), (jm_15 H1), (jm_20 H), (jm_20 H1), (ih c η H), (ih 1 δ H1)]
theorem jm_19_37 (k : Nat) {δ : gb_S} {c : Int} {η : gb_S} (H : DHd c δ η) (a0 : Nat) (a1 : Nat) (a2 : Nat) (x3 : Int) (x4 : Int) (ha0 : 5 ≤ a0) (ha1 : 5 ≤ a1) (ha2 : 5 ≤ a2) (ρ : gb_S) : fx_19_37 k a0 a1 a2 x3 x4 (Jd η ρ) = jop (Jd η) (jhm δ (fx_19_37 k a0 a1 a2 x3 x4) ρ) := jn_19_37 k c η H a0 a1 a2 x3 x4 ha0 ha1 ha2 ρ
theorem jn_19_5 (k : Nat) {δ : gb_S} : ∀ (c : Int) (η : gb_S), DHd c δ η → ∀ (a0 : Nat) (a1 : Nat) (a2 : Nat) (x3 : Int) (x4 : Int) (ha0 : 5 ≤ a0) (ha1 : 5 ≤ a1) (ha2 : 5 ≤ a2) (ρ : gb_S), fx_19_5 k a0 a1 a2 x3 x4 (Jd η ρ) = jop (Jd η) (jhm δ (fx_19_5 k a0 a1 a2 x3 x4) ρ) := by
  induction k with
  | zero => intros; rfl
  | succ k ih =>
    intro c η H a0 a1 a2 x3 x4 ha0 ha1 ha2 ρ
    have H1 := H.one
    show _ = jop (Jd η) (fx_19_5 (k + 1) a0 a1 a2 x3 x4 (Jd δ ρ))
    rw [fx_19_5, fx_19_5]
    simp (disch := omega) only [Jd_rd, Jd_up, Jd_fi, Jd_cp, Jd_J, gc_jop, jop_gf, jop_gc, jop_q, jop_i, jop_s, jop_n, jop_j, (jm_20 H), (jm_20 H1), (ih c η H), (ih 1 δ H1), (jm_19_37 _ H), (jm_19_37 _ H1)]
theorem jm_19_5 (k : Nat) {δ : gb_S} {c : Int} {η : gb_S} (H : DHd c δ η) (a0 : Nat) (a1 : Nat) (a2 : Nat) (x3 : Int) (x4 : Int) (ha0 : 5 ≤ a0) (ha1 : 5 ≤ a1) (ha2 : 5 ≤ a2) (ρ : gb_S) : fx_19_5 k a0 a1 a2 x3 x4 (Jd η ρ) = jop (Jd η) (jhm δ (fx_19_5 k a0 a1 a2 x3 x4) ρ) := jn_19_5 k c η H a0 a1 a2 x3 x4 ha0 ha1 ha2 ρ
theorem jm_19 {δ : gb_S} {c : Int} {η : gb_S} (H : DHd c δ η) (a0 : Nat) (a1 : Nat) (a2 : Nat) (ha0 : 5 ≤ a0) (ha1 : 5 ≤ a1) (ha2 : 5 ≤ a2) (ρ : gb_S) : fx_19 a0 a1 a2 (Jd η ρ) = jop (Jd η) (jhm δ (fx_19 a0 a1 a2) ρ) := by
  have H1 := H.one
  show _ = jop (Jd η) (fx_19 a0 a1 a2 (Jd δ ρ))
  unfold fx_19
  simp (disch := omega) only [Jd_rd, Jd_up, Jd_fi, Jd_cp, Jd_J, gc_jop, jop_gf, jop_gc, jop_q, jop_i, jop_s, jop_n, jop_j, (jm_19_5 _ H), (jm_19_5 _ H1)]
theorem jm_24 {δ : gb_S} {c : Int} {η : gb_S} (H : DHd c δ η) (x1 : Int) (ρ : gb_S) : fx_24 x1 (Jd η ρ) = jop (Jd η) (jhm δ (fx_24 x1) ρ) := by
  have H1 := H.one
  show _ = jop (Jd η) (fx_24 x1 (Jd δ ρ))
  unfold fx_24
  simp (disch := omega) only [Jd_rd, Jd_up, Jd_fi, Jd_cp, Jd_J, gc_jop, jop_gf, jop_gc, jop_q, jop_i, jop_s, jop_n, jop_j, (jm_123 H), (jm_123 H1)]
theorem jm_63 {δ : gb_S} {c : Int} {η : gb_S} (H : DHd c δ η) (x1 : Int) (ρ : gb_S) : fx_63 x1 (Jd η ρ) = jop (Jd η) (jhm δ (fx_63 x1) ρ) := by
  have H1 := H.one
  show _ = jop (Jd η) (fx_63 x1 (Jd δ ρ))
  unfold fx_63
  simp (disch := omega) only [Jd_rd, Jd_up, Jd_fi, Jd_cp, Jd_J, gc_jop, jop_gf, jop_gc, jop_q, jop_i, jop_s, jop_n, jop_j]
theorem jm_67 {δ : gb_S} {c : Int} {η : gb_S} (H : DHd c δ η) (x1 : Int) (ρ : gb_S) : fx_67 x1 (Jd η ρ) = jop (Jd η) (jhm δ (fx_67 x1) ρ) := by
  have H1 := H.one
  show _ = jop (Jd η) (fx_67 x1 (Jd δ ρ))
  unfold fx_67
  simp (disch := omega) only [Jd_rd, Jd_up, Jd_fi, Jd_cp, Jd_J, gc_jop, jop_gf, jop_gc, jop_q, jop_i, jop_s, jop_n, jop_j, (jm_63 H), (jm_63 H1)]
theorem jn_36_11 (k : Nat) {δ : gb_S} : ∀ (c : Int) (η : gb_S), DHd c δ η → ∀ (a0 : Nat) (x2 : Int) (x3 : Int) (x4 : Int) (ha0 : 5 ≤ a0) (ρ : gb_S), fx_36_11 k a0 x2 x3 x4 (Jd η ρ) = jop (Jd η) (jhm δ (fx_36_11 k a0 x2 x3 x4) ρ) := by
  induction k with
  | zero => intros; rfl
  | succ k ih =>
    intro c η H a0 x2 x3 x4 ha0 ρ
    have H1 := H.one
    show _ = jop (Jd η) (fx_36_11 (k + 1) a0 x2 x3 x4 (Jd δ ρ))
    rw [fx_36_11, fx_36_11]
    simp (disch := omega) only [Jd_rd, Jd_up, Jd_fi, Jd_cp, Jd_J, gc_jop, jop_gf, jop_gc, jop_q, jop_i, jop_s, jop_n, jop_j, (ih c η H), (ih 1 δ H1), (jm_67 H), (jm_67 H1)]
theorem jm_36_11 (k : Nat) {δ : gb_S} {c : Int} {η : gb_S} (H : DHd c δ η) (a0 : Nat) (x2 : Int) (x3 : Int) (x4 : Int) (ha0 : 5 ≤ a0) (ρ : gb_S) : fx_36_11 k a0 x2 x3 x4 (Jd η ρ) = jop (Jd η) (jhm δ (fx_36_11 k a0 x2 x3 x4) ρ) := jn_36_11 k c η H a0 x2 x3 x4 ha0 ρ
theorem jm_36 {δ : gb_S} {c : Int} {η : gb_S} (H : DHd c δ η) (a0 : Nat) (x2 : Int) (x3 : Int) (ha0 : 5 ≤ a0) (ρ : gb_S) : fx_36 a0 x2 x3 (Jd η ρ) = jop (Jd η) (jhm δ (fx_36 a0 x2 x3) ρ) := by
  have H1 := H.one
  show _ = jop (Jd η) (fx_36 a0 x2 x3 (Jd δ ρ))
  unfold fx_36
  simp (disch := omega) only [Jd_rd, Jd_up, Jd_fi, Jd_cp, Jd_J, gc_jop, jop_gf, jop_gc, jop_q, jop_i, jop_s, jop_n, jop_j, (jm_36_11 _ H), (jm_36_11 _ H1)]
theorem jn_37_7 (k : Nat) {δ : gb_S} : ∀ (c : Int) (η : gb_S), DHd c δ η → ∀ (a0 : Nat) (x1 : Int) (x2 : Int) (x3 : Int) (x4 : Int) (ha0 : 5 ≤ a0) (ρ : gb_S), fx_37_7 k a0 x1 x2 x3 x4 (Jd η ρ) = jop (Jd η) (jhm δ (fx_37_7 k a0 x1 x2 x3 x4) ρ) := by
  induction k with
  | zero => intros; rfl
  | succ k ih =>
    intro c η H a0 x1 x2 x3 x4 ha0 ρ
    have H1 := H.one
    show _ = jop (Jd η) (fx_37_7 (k + 1) a0 x1 x2 x3 x4 (Jd δ ρ))
    rw [fx_37_7, fx_37_7]
    simp (disch := omega) only [Jd_rd, Jd_up, Jd_fi, Jd_cp, Jd_J, gc_jop, jop_gf, jop_gc, jop_q, jop_i, jop_s, jop_n, jop_j, (ih c η H), (ih 1 δ H1)]
theorem jm_37_7 (k : Nat) {δ : gb_S} {c : Int} {η : gb_S} (H : DHd c δ η) (a0 : Nat) (x1 : Int) (x2 : Int) (x3 : Int) (x4 : Int) (ha0 : 5 ≤ a0) (ρ : gb_S) : fx_37_7 k a0 x1 x2 x3 x4 (Jd η ρ) = jop (Jd η) (jhm δ (fx_37_7 k a0 x1 x2 x3 x4) ρ) := jn_37_7 k c η H a0 x1 x2 x3 x4 ha0 ρ
theorem jm_37 {δ : gb_S} {c : Int} {η : gb_S} (H : DHd c δ η) (a0 : Nat) (x1 : Int) (ha0 : 5 ≤ a0) (ρ : gb_S) : fx_37 a0 x1 (Jd η ρ) = jop (Jd η) (jhm δ (fx_37 a0 x1) ρ) := by
  have H1 := H.one
  show _ = jop (Jd η) (fx_37 a0 x1 (Jd δ ρ))
  unfold fx_37
  simp (disch := omega) only [Jd_rd, Jd_up, Jd_fi, Jd_cp, Jd_J, gc_jop, jop_gf, jop_gc, jop_q, jop_i, jop_s, jop_n, jop_j, (jm_37_7 _ H), (jm_37_7 _ H1)]
end JJ1
