section JJ2
theorem jm_38 {δ : gb_S} {c : Int} {η : gb_S} (H : DHd c δ η) (a0 : Nat) (x1 : Int) (x2 : Int) (ha0 : 5 ≤ a0) (ρ : gb_S) : fx_38 a0 x1 x2 (Jd η ρ) = jop (Jd η) (jhm δ (fx_38 a0 x1 x2) ρ) := by
  have H1 := H.one
  show _ = jop (Jd η) (fx_38 a0 x1 x2 (Jd δ ρ))
  unfold fx_38
  simp (disch := omega) only [Jd_rd, Jd_up, Jd_fi, Jd_cp, Jd_J, gc_jop, jop_gf, jop_gc, jop_q, jop_i, jop_s, jop_n, jop_j]
theorem jn_35_10 (k : Nat) {δ : gb_S} : ∀ (c : Int) (η : gb_S), DHd c δ η → ∀ (a0 : Nat) (x2 : Int) (x3 : Int) (ha0 : 5 ≤ a0) (ρ : gb_S), fx_35_10 k a0 x2 x3 (Jd η ρ) = jop (Jd η) (jhm δ (fx_35_10 k a0 x2 x3) ρ) := by
  induction k with
  | zero => intros; rfl
  | succ k ih =>
    intro c η H a0 x2 x3 ha0 ρ
    have H1 := H.one
    show _ = jop (Jd η) (fx_35_10 (k + 1) a0 x2 x3 (Jd δ ρ))
    rw [fx_35_10, fx_35_10]
    simp (disch := omega) only [Jd_rd, Jd_up, Jd_fi, Jd_cp, Jd_J, gc_jop, jop_gf, jop_gc, jop_q, jop_i, jop_s, jop_n, jop_j, (jm_36 H), (jm_36 H1), (jm_37 H), (jm_37 H1), (jm_38 H), (jm_38 H1), (ih c η H), (ih 1 δ H1)]
theorem jm_35_10 (k : Nat) {δ : gb_S} {c : Int} {η : gb_S} (H : DHd c δ η) (a0 : Nat) (x2 : Int) (x3 : Int) (ha0 : 5 ≤ a0) (ρ : gb_S) : fx_35_10 k a0 x2 x3 (Jd η ρ) = jop (Jd η) (jhm δ (fx_35_10 k a0 x2 x3) ρ) := jn_35_10 k c η H a0 x2 x3 ha0 ρ
theorem jm_35 {δ : gb_S} {c : Int} {η : gb_S} (H : DHd c δ η) (a0 : Nat) (x2 : Int) (ha0 : 5 ≤ a0) (ρ : gb_S) : fx_35 a0 x2 (Jd η ρ) = jop (Jd η) (jhm δ (fx_35 a0 x2) ρ) := by
  have H1 := H.one
  show _ = jop (Jd η) (fx_35 a0 x2 (Jd δ ρ))
  unfold fx_35
  simp (disch := omega) only [Jd_rd, Jd_up, Jd_fi, Jd_cp, Jd_J, gc_jop, jop_gf, jop_gc, jop_q, jop_i, jop_s, jop_n, jop_j, (jm_35_10 _ H), (jm_35_10 _ H1)]
theorem jm_40 {δ : gb_S} {c : Int} {η : gb_S} (H : DHd c δ η) (x1 : Int) (ρ : gb_S) : fx_40 x1 (Jd η ρ) = jop (Jd η) (jhm δ (fx_40 x1) ρ) := by
  have H1 := H.one
  show _ = jop (Jd η) (fx_40 x1 (Jd δ ρ))
  unfold fx_40
  simp (disch := omega) only [Jd_rd, Jd_up, Jd_fi, Jd_cp, Jd_J, gc_jop, jop_gf, jop_gc, jop_q, jop_i, jop_s, jop_n, jop_j]
theorem jn_41_6 (k : Nat) {δ : gb_S} : ∀ (c : Int) (η : gb_S), DHd c δ η → ∀ (x2 : Int) (x3 : Int) (ρ : gb_S), fx_41_6 k x2 x3 (Jd η ρ) = jop (Jd η) (jhm δ (fx_41_6 k x2 x3) ρ) := by
  induction k with
  | zero => intros; rfl
  | succ k ih =>
    intro c η H x2 x3 ρ
    have H1 := H.one
    show _ = jop (Jd η) (fx_41_6 (k + 1) x2 x3 (Jd δ ρ))
    rw [fx_41_6, fx_41_6]
    simp (disch := omega) only [Jd_rd, Jd_up, Jd_fi, Jd_cp, Jd_J, gc_jop, jop_gf, jop_gc, jop_q, jop_i, jop_s, jop_n, jop_j, (ih c η H), (ih 1 δ H1)]
theorem jm_41_6 (k : Nat) {δ : gb_S} {c : Int} {η : gb_S} (H : DHd c δ η) (x2 : Int) (x3 : Int) (ρ : gb_S) : fx_41_6 k x2 x3 (Jd η ρ) = jop (Jd η) (jhm δ (fx_41_6 k x2 x3) ρ) := jn_41_6 k c η H x2 x3 ρ
theorem jm_41 {δ : gb_S} {c : Int} {η : gb_S} (H : DHd c δ η) (x1 : Int) (x2 : Int) (ρ : gb_S) : fx_41 x1 x2 (Jd η ρ) = jop (Jd η) (jhm δ (fx_41 x1 x2) ρ) := by
  have H1 := H.one
  show _ = jop (Jd η) (fx_41 x1 x2 (Jd δ ρ))
  unfold fx_41
  simp (disch := omega) only [Jd_rd, Jd_up, Jd_fi, Jd_cp, Jd_J, gc_jop, jop_gf, jop_gc, jop_q, jop_i, jop_s, jop_n, jop_j, (jm_41_6 _ H), (jm_41_6 _ H1)]
theorem jn_57_10 (k : Nat) {δ : gb_S} : ∀ (c : Int) (η : gb_S), DHd c δ η → ∀ (a0 : Nat) (x1 : Int) (x3 : Int) (x4 : Int) (x5 : Int) (ha0 : 5 ≤ a0) (ρ : gb_S), fx_57_10 k a0 x1 x3 x4 x5 (Jd η ρ) = jop (Jd η) (jhm δ (fx_57_10 k a0 x1 x3 x4 x5) ρ) := by
  induction k with
  | zero => intros; rfl
  | succ k ih =>
    intro c η H a0 x1 x3 x4 x5 ha0 ρ
    have H1 := H.one
    show _ = jop (Jd η) (fx_57_10 (k + 1) a0 x1 x3 x4 x5 (Jd δ ρ))
    rw [fx_57_10, fx_57_10]
    simp (disch := omega) only [Jd_rd, Jd_up, Jd_fi, Jd_cp, Jd_J, gc_jop, jop_gf, jop_gc, jop_q, jop_i, jop_s, jop_n, jop_j, (ih c η H), (ih 1 δ H1)]
theorem jm_57_10 (k : Nat) {δ : gb_S} {c : Int} {η : gb_S} (H : DHd c δ η) (a0 : Nat) (x1 : Int) (x3 : Int) (x4 : Int) (x5 : Int) (ha0 : 5 ≤ a0) (ρ : gb_S) : fx_57_10 k a0 x1 x3 x4 x5 (Jd η ρ) = jop (Jd η) (jhm δ (fx_57_10 k a0 x1 x3 x4 x5) ρ) := jn_57_10 k c η H a0 x1 x3 x4 x5 ha0 ρ
theorem jm_57 {δ : gb_S} {c : Int} {η : gb_S} (H : DHd c δ η) (a0 : Nat) (x1 : Int) (x2 : Int) (x3 : Int) (ha0 : 5 ≤ a0) (ρ : gb_S) : fx_57 a0 x1 x2 x3 (Jd η ρ) = jop (Jd η) (jhm δ (fx_57 a0 x1 x2 x3) ρ) := by
  have H1 := H.one
  show _ = jop (Jd η) (fx_57 a0 x1 x2 x3 (Jd δ ρ))
  unfold fx_57
  simp (disch := omega) only [Jd_rd, Jd_up, Jd_fi, Jd_cp, Jd_J, gc_jop, jop_gf, jop_gc, jop_q, jop_i, jop_s, jop_n, jop_j, (jm_57_10 _ H), (jm_57_10 _ H1)]
theorem jm_42 {δ : gb_S} {c : Int} {η : gb_S} (H : DHd c δ η) (x1 : Int) (x2 : Int) (x3 : Int) (ρ : gb_S) : fx_42 x1 x2 x3 (Jd η ρ) = jop (Jd η) (jhm δ (fx_42 x1 x2 x3) ρ) := by
  have H1 := H.one
  show _ = jop (Jd η) (fx_42 x1 x2 x3 (Jd δ ρ))
  unfold fx_42
  simp (disch := omega) only [Jd_rd, Jd_up, Jd_fi, Jd_cp, Jd_J, gc_jop, jop_gf, jop_gc, jop_q, jop_i, jop_s, jop_n, jop_j, (jm_57 H), (jm_57 H1)]
theorem jn_43_2 (k : Nat) {δ : gb_S} : ∀ (c : Int) (η : gb_S), DHd c δ η → ∀ (x1 : Int) (x2 : Int) (ρ : gb_S), fx_43_2 k x1 x2 (Jd η ρ) = jop (Jd η) (jhm δ (fx_43_2 k x1 x2) ρ) := by
  induction k with
  | zero => intros; rfl
  | succ k ih =>
    intro c η H x1 x2 ρ
    have H1 := H.one
    show _ = jop (Jd η) (fx_43_2 (k + 1) x1 x2 (Jd δ ρ))
    rw [fx_43_2, fx_43_2]
    simp (disch := omega) only [Jd_rd, Jd_up, Jd_fi, Jd_cp, Jd_J, gc_jop, jop_gf, jop_gc, jop_q, jop_i, jop_s, jop_n, jop_j, (jm_40 H), (jm_40 H1), (ih c η H), (ih 1 δ H1)]
theorem jm_43_2 (k : Nat) {δ : gb_S} {c : Int} {η : gb_S} (H : DHd c δ η) (x1 : Int) (x2 : Int) (ρ : gb_S) : fx_43_2 k x1 x2 (Jd η ρ) = jop (Jd η) (jhm δ (fx_43_2 k x1 x2) ρ) := jn_43_2 k c η H x1 x2 ρ
theorem jm_43 {δ : gb_S} {c : Int} {η : gb_S} (H : DHd c δ η) (x1 : Int) (ρ : gb_S) : fx_43 x1 (Jd η ρ) = jop (Jd η) (jhm δ (fx_43 x1) ρ) := by
  have H1 := H.one
  show _ = jop (Jd η) (fx_43 x1 (Jd δ ρ))
  unfold fx_43
  simp (disch := omega) only [Jd_rd, Jd_up, Jd_fi, Jd_cp, Jd_J, gc_jop, jop_gf, jop_gc, jop_q, jop_i, jop_s, jop_n, jop_j, (jm_43_2 _ H), (jm_43_2 _ H1)]
theorem jn_44_4 (k : Nat) {δ : gb_S} : ∀ (c : Int) (η : gb_S), DHd c δ η → ∀ (x1 : Int) (x2 : Int) (ρ : gb_S), fx_44_4 k x1 x2 (Jd η ρ) = jop (Jd η) (jhm δ (fx_44_4 k x1 x2) ρ) := by
  induction k with
  | zero => intros; rfl
  | succ k ih =>
    intro c η H x1 x2 ρ
    have H1 := H.one
    show _ = jop (Jd η) (fx_44_4 (k + 1) x1 x2 (Jd δ ρ))
    rw [fx_44_4, fx_44_4]
    simp (disch := omega) only [Jd_rd, Jd_up, Jd_fi, Jd_cp, Jd_J, gc_jop, jop_gf, jop_gc, jop_q, jop_i, jop_s, jop_n, jop_j, (jm_40 H), (jm_40 H1), (ih c η H), (ih 1 δ H1)]
theorem jm_44_4 (k : Nat) {δ : gb_S} {c : Int} {η : gb_S} (H : DHd c δ η) (x1 : Int) (x2 : Int) (ρ : gb_S) : fx_44_4 k x1 x2 (Jd η ρ) = jop (Jd η) (jhm δ (fx_44_4 k x1 x2) ρ) := jn_44_4 k c η H x1 x2 ρ
theorem jm_44 {δ : gb_S} {c : Int} {η : gb_S} (H : DHd c δ η) (x1 : Int) (ρ : gb_S) : fx_44 x1 (Jd η ρ) = jop (Jd η) (jhm δ (fx_44 x1) ρ) := by
  have H1 := H.one
  show _ = jop (Jd η) (fx_44 x1 (Jd δ ρ))
  unfold fx_44
  simp (disch := omega) only [Jd_rd, Jd_up, Jd_fi, Jd_cp, Jd_J, gc_jop, jop_gf, jop_gc, jop_q, jop_i, jop_s, jop_n, jop_j, (jm_44_4 _ H), (jm_44_4 _ H1)]
theorem jm_48 {δ : gb_S} {c : Int} {η : gb_S} (H : DHd c δ η) (x1 : Int) (x2 : Int) (x3 : Int) (x4 : Int) (ρ : gb_S) : fx_48 x1 x2 x3 x4 (Jd η ρ) = jop (Jd η) (jhm δ (fx_48 x1 x2 x3 x4) ρ) := by
  have H1 := H.one
  show _ = jop (Jd η) (fx_48 x1 x2 x3 x4 (Jd δ ρ))
  unfold fx_48
  simp (disch := omega) only [Jd_rd, Jd_up, Jd_fi, Jd_cp, Jd_J, gc_jop, jop_gf, jop_gc, jop_q, jop_i, jop_s, jop_n, jop_j]
theorem jn_51_24 (k : Nat) {δ : gb_S} : ∀ (c : Int) (η : gb_S), DHd c δ η → ∀ (a1 : Nat) (x2 : Int) (x3 : Int) (ha1 : 5 ≤ a1) (ρ : gb_S), fx_51_24 k a1 x2 x3 (Jd η ρ) = jop (Jd η) (jhm δ (fx_51_24 k a1 x2 x3) ρ) := by
  induction k with
  | zero => intros; rfl
  | succ k ih =>
    intro c η H a1 x2 x3 ha1 ρ
    have H1 := H.one
    show _ = jop (Jd η) (fx_51_24 (k + 1) a1 x2 x3 (Jd δ ρ))
    rw [fx_51_24, fx_51_24]
    simp (disch := omega) only [Jd_rd, Jd_up, Jd_fi, Jd_cp, Jd_J, gc_jop, jop_gf, jop_gc, jop_q, jop_i, jop_s, jop_n, jop_j, (ih c η H), (ih 1 δ H1)]
theorem jm_51_24 (k : Nat) {δ : gb_S} {c : Int} {η : gb_S} (H : DHd c δ η) (a1 : Nat) (x2 : Int) (x3 : Int) (ha1 : 5 ≤ a1) (ρ : gb_S) : fx_51_24 k a1 x2 x3 (Jd η ρ) = jop (Jd η) (jhm δ (fx_51_24 k a1 x2 x3) ρ) := jn_51_24 k c η H a1 x2 x3 ha1 ρ
theorem jm_51 {δ : gb_S} {c : Int} {η : gb_S} (H : DHd c δ η) (a1 : Nat) (x2 : Int) (ha1 : 5 ≤ a1) (ρ : gb_S) : fx_51 a1 x2 (Jd η ρ) = jop (Jd η) (jhm δ (fx_51 a1 x2) ρ) := by
  have H1 := H.one
  show _ = jop (Jd η) (fx_51 a1 x2 (Jd δ ρ))
  unfold fx_51
  simp (disch := omega) only [Jd_rd, Jd_up, Jd_fi, Jd_cp, Jd_J, gc_jop, jop_gf, jop_gc, jop_q, jop_i, jop_s, jop_n, jop_j, (jm_51_24 _ H), (jm_51_24 _ H1)]
theorem jm_45_34 {δ : gb_S} {c : Int} {η : gb_S} (H : DHd c δ η) (x1 : Int) (x2 : Int) (x3 : Int) (ρ : gb_S) : fx_45_34 x1 x2 x3 (Jd η ρ) = jop (Jd η) (jhm δ (fx_45_34 x1 x2 x3) ρ) := by
  have H1 := H.one
  show _ = jop (Jd η) (fx_45_34 x1 x2 x3 (Jd δ ρ))
  unfold fx_45_34
  simp (disch := omega) only [Jd_rd, Jd_up, Jd_fi, Jd_cp, Jd_J, gc_jop, jop_gf, jop_gc, jop_q, jop_i, jop_s, jop_n, jop_j, (jm_48 H), (jm_48 H1), (jm_51 H), (jm_51 H1)]
theorem jn_45_7 (k : Nat) {δ : gb_S} : ∀ (c : Int) (η : gb_S), DHd c δ η → ∀ (x1 : Int) (x2 : Int) (x3 : Int) (x4 : Int) (ρ : gb_S), fx_45_7 k x1 x2 x3 x4 (Jd η ρ) = jop (Jd η) (jhm δ (fx_45_7 k x1 x2 x3 x4) ρ) := by
  induction k with
  | zero => intros; rfl
  | succ k ih =>
    intro c η H x1 x2 x3 x4 ρ
    have H1 := H.one
    show _ = jop (Jd η) (fx_45_7 (k + 1) x1 x2 x3 x4 (Jd δ ρ))
    rw [fx_45_7, fx_45_7]
    simp (disch := omega) only [Jd_rd, Jd_up, Jd_fi, Jd_cp, Jd_J, gc_jop, jop_gf, jop_gc, jop_q, jop_i, jop_s, jop_n, jop_j, (ih c η H), (ih 1 δ H1), (jm_45_34 H), (jm_45_34 H1)]
theorem jm_45_7 (k : Nat) {δ : gb_S} {c : Int} {η : gb_S} (H : DHd c δ η) (x1 : Int) (x2 : Int) (x3 : Int) (x4 : Int) (ρ : gb_S) : fx_45_7 k x1 x2 x3 x4 (Jd η ρ) = jop (Jd η) (jhm δ (fx_45_7 k x1 x2 x3 x4) ρ) := jn_45_7 k c η H x1 x2 x3 x4 ρ
theorem jm_45 {δ : gb_S} {c : Int} {η : gb_S} (H : DHd c δ η) (x1 : Int) (x2 : Int) (x3 : Int) (ρ : gb_S) : fx_45 x1 x2 x3 (Jd η ρ) = jop (Jd η) (jhm δ (fx_45 x1 x2 x3) ρ) := by
  have H1 := H.one
  show _ = jop (Jd η) (fx_45 x1 x2 x3 (Jd δ ρ))
  unfold fx_45
  simp (disch := omega) only [Jd_rd, Jd_up, Jd_fi, Jd_cp, Jd_J, gc_jop, jop_gf, jop_gc, jop_q, jop_i, jop_s, jop_n, jop_j, (jm_45_7 _ H), (jm_45_7 _ H1)]
theorem jm_46 {δ : gb_S} {c : Int} {η : gb_S} (H : DHd c δ η) (x1 : Int) (x2 : Int) (x3 : Int) (x4 : Int) (ρ : gb_S) : fx_46 x1 x2 x3 x4 (Jd η ρ) = jop (Jd η) (jhm δ (fx_46 x1 x2 x3 x4) ρ) := by
  have H1 := H.one
  show _ = jop (Jd η) (fx_46 x1 x2 x3 x4 (Jd δ ρ))
  unfold fx_46
  simp (disch := omega) only [Jd_rd, Jd_up, Jd_fi, Jd_cp, Jd_J, gc_jop, jop_gf, jop_gc, jop_q, jop_i, jop_s, jop_n, jop_j, (jm_48 H), (jm_48 H1), (jm_51 H), (jm_51 H1)]
theorem jm_54 {δ : gb_S} {c : Int} {η : gb_S} (H : DHd c δ η) (x1 : Int) (x2 : Int) (ρ : gb_S) : fx_54 x1 x2 (Jd η ρ) = jop (Jd η) (jhm δ (fx_54 x1 x2) ρ) := by
  have H1 := H.one
  show _ = jop (Jd η) (fx_54 x1 x2 (Jd δ ρ))
  unfold fx_54
  simp (disch := omega) only [Jd_rd, Jd_up, Jd_fi, Jd_cp, Jd_J, gc_jop, jop_gf, jop_gc, jop_q, jop_i, jop_s, jop_n, jop_j]
theorem jm_74 {δ : gb_S} {c : Int} {η : gb_S} (H : DHd c δ η) (a0 : Nat) (x1 : Int) (x2 : Int) (ha0 : 5 ≤ a0) (ρ : gb_S) : fx_74 a0 x1 x2 (Jd η ρ) = jop (Jd η) (jhm δ (fx_74 a0 x1 x2) ρ) := by
  have H1 := H.one
  show _ = jop (Jd η) (fx_74 a0 x1 x2 (Jd δ ρ))
  unfold fx_74
  simp (disch := omega) only [Jd_rd, Jd_up, Jd_fi, Jd_cp, Jd_J, gc_jop, jop_gf, jop_gc, jop_q, jop_i, jop_s, jop_n, jop_j, (jm_72 H), (jm_72 H1), (jm_71 H), (jm_71 H1)]
theorem jn_55_59 (k : Nat) {δ : gb_S} : ∀ (c : Int) (η : gb_S), DHd c δ η → ∀ (x2 : Int) (x4 : Int) (x5 : Int) (ρ : gb_S), fx_55_59 k x2 x4 x5 (Jd η ρ) = jop (Jd η) (jhm δ (fx_55_59 k x2 x4 x5) ρ) := by
  induction k with
  | zero => intros; rfl
  | succ k ih =>
    intro c η H x2 x4 x5 ρ
    have H1 := H.one
    show _ = jop (Jd η) (fx_55_59 (k + 1) x2 x4 x5 (Jd δ ρ))
    rw [fx_55_59, fx_55_59]
    simp (disch := omega) only [Jd_rd, Jd_up, Jd_fi, Jd_cp, Jd_J, gc_jop, jop_gf, jop_gc, jop_q, jop_i, jop_s, jop_n, jop_j, (ih c η H), (ih 1 δ H1)]
theorem jm_55_59 (k : Nat) {δ : gb_S} {c : Int} {η : gb_S} (H : DHd c δ η) (x2 : Int) (x4 : Int) (x5 : Int) (ρ : gb_S) : fx_55_59 k x2 x4 x5 (Jd η ρ) = jop (Jd η) (jhm δ (fx_55_59 k x2 x4 x5) ρ) := jn_55_59 k c η H x2 x4 x5 ρ
theorem jn_55_6 (k : Nat) {δ : gb_S} : ∀ (c : Int) (η : gb_S), DHd c δ η → ∀ (x1 : Int) (x2 : Int) (a3 : Nat) (x4 : Int) (x5 : Int) (ha3 : 5 ≤ a3) (ρ : gb_S), fx_55_6 k x1 x2 a3 x4 x5 (Jd η ρ) = jop (Jd η) (jhm δ (fx_55_6 k x1 x2 a3 x4 x5) ρ) := by
  induction k with
  | zero => intros; rfl
  | succ k ih =>
    intro c η H x1 x2 a3 x4 x5 ha3 ρ
    have H1 := H.one
    show _ = jop (Jd η) (fx_55_6 (k + 1) x1 x2 a3 x4 x5 (Jd δ ρ))
    rw [fx_55_6, fx_55_6]
    simp (disch := omega) only [Jd_rd, Jd_up, Jd_fi, Jd_cp, Jd_J, gc_jop, jop_gf, jop_gc, jop_q, jop_i, jop_s, jop_n, jop_j, (jm_74 H), (jm_74 H1), (ih c η H), (ih 1 δ H1), (jm_55_59 _ H), (jm_55_59 _ H1)]
theorem jm_55_6 (k : Nat) {δ : gb_S} {c : Int} {η : gb_S} (H : DHd c δ η) (x1 : Int) (x2 : Int) (a3 : Nat) (x4 : Int) (x5 : Int) (ha3 : 5 ≤ a3) (ρ : gb_S) : fx_55_6 k x1 x2 a3 x4 x5 (Jd η ρ) = jop (Jd η) (jhm δ (fx_55_6 k x1 x2 a3 x4 x5) ρ) := jn_55_6 k c η H x1 x2 a3 x4 x5 ha3 ρ
theorem jm_55 {δ : gb_S} {c : Int} {η : gb_S} (H : DHd c δ η) (x1 : Int) (x2 : Int) (a3 : Nat) (ha3 : 5 ≤ a3) (ρ : gb_S) : fx_55 x1 x2 a3 (Jd η ρ) = jop (Jd η) (jhm δ (fx_55 x1 x2 a3) ρ) := by
  have H1 := H.one
  show _ = jop (Jd η) (fx_55 x1 x2 a3 (Jd δ ρ))
  unfold fx_55
  simp (disch := omega) only [Jd_rd, Jd_up, Jd_fi, Jd_cp, Jd_J, gc_jop, jop_gf, jop_gc, jop_q, jop_i, jop_s, jop_n, jop_j, (jm_55_6 _ H), (jm_55_6 _ H1)]
theorem jm_53_83 {δ : gb_S} {k35 : Nat → Nat → Int → Int → Int → gb_S → Option gb_P} (hk35 : ∀ (c : Int) (η : gb_S), DHd c δ η → ∀ (z0 : Nat) (z1 : Nat) (z2 : Int) (z3 : Int) (z4 : Int) (_ : 5 ≤ z0) (_ : 5 ≤ z1) (ρ : gb_S), k35 z0 z1 z2 z3 z4 (Jd η ρ) = jop (Jd η) (jhm δ (k35 z0 z1 z2 z3 z4) ρ)) {c : Int} {η : gb_S} (H : DHd c δ η) (a1 : Nat) (a2 : Nat) (x4 : Int) (x5 : Int) (x6 : Int) (ha1 : 5 ≤ a1) (ha2 : 5 ≤ a2) (ρ : gb_S) : fx_53_83 k35 a1 a2 x4 x5 x6 (Jd η ρ) = jop (Jd η) (jhm δ (fx_53_83 k35 a1 a2 x4 x5 x6) ρ) := by
  have H1 := H.one
  show _ = jop (Jd η) (fx_53_83 k35 a1 a2 x4 x5 x6 (Jd δ ρ))
  unfold fx_53_83
  simp (disch := omega) only [Jd_rd, Jd_up, Jd_fi, Jd_cp, Jd_J, gc_jop, jop_gf, jop_gc, jop_q, jop_i, jop_s, jop_n, jop_j, (jm_54 H), (jm_54 H1), (hk35 c η H), (hk35 1 δ H1)]
theorem jn_53_53 (k : Nat) {δ : gb_S} {k35 : Nat → Nat → Int → Int → Int → gb_S → Option gb_P} (hk35 : ∀ (c : Int) (η : gb_S), DHd c δ η → ∀ (z0 : Nat) (z1 : Nat) (z2 : Int) (z3 : Int) (z4 : Int) (_ : 5 ≤ z0) (_ : 5 ≤ z1) (ρ : gb_S), k35 z0 z1 z2 z3 z4 (Jd η ρ) = jop (Jd η) (jhm δ (k35 z0 z1 z2 z3 z4) ρ)) : ∀ (c : Int) (η : gb_S), DHd c δ η → ∀ (a1 : Nat) (a2 : Nat) (x4 : Int) (x5 : Int) (x6 : Int) (ha1 : 5 ≤ a1) (ha2 : 5 ≤ a2) (ρ : gb_S), fx_53_53 k k35 a1 a2 x4 x5 x6 (Jd η ρ) = jop (Jd η) (jhm δ (fx_53_53 k k35 a1 a2 x4 x5 x6) ρ) := by
  induction k with
  | zero => intros; rfl
  | succ k ih =>
    intro c η H a1 a2 x4 x5 x6 ha1 ha2 ρ
    have H1 := H.one
    show _ = jop (Jd η) (fx_53_53 (k + 1) k35 a1 a2 x4 x5 x6 (Jd δ ρ))
    rw [fx_53_53, fx_53_53]
    simp (disch := omega) only [Jd_rd, Jd_up, Jd_fi, Jd_cp, Jd_J, gc_jop, jop_gf, jop_gc, jop_q, jop_i, jop_s, jop_n, jop_j, (ih c η H), (ih 1 δ H1), (jm_53_83 hk35 H), (jm_53_83 hk35 H1), (hk35 c η H), (hk35 1 δ H1)]
theorem jm_53_53 (k : Nat) {δ : gb_S} {k35 : Nat → Nat → Int → Int → Int → gb_S → Option gb_P} (hk35 : ∀ (c : Int) (η : gb_S), DHd c δ η → ∀ (z0 : Nat) (z1 : Nat) (z2 : Int) (z3 : Int) (z4 : Int) (_ : 5 ≤ z0) (_ : 5 ≤ z1) (ρ : gb_S), k35 z0 z1 z2 z3 z4 (Jd η ρ) = jop (Jd η) (jhm δ (k35 z0 z1 z2 z3 z4) ρ)) {c : Int} {η : gb_S} (H : DHd c δ η) (a1 : Nat) (a2 : Nat) (x4 : Int) (x5 : Int) (x6 : Int) (ha1 : 5 ≤ a1) (ha2 : 5 ≤ a2) (ρ : gb_S) : fx_53_53 k k35 a1 a2 x4 x5 x6 (Jd η ρ) = jop (Jd η) (jhm δ (fx_53_53 k k35 a1 a2 x4 x5 x6) ρ) := jn_53_53 k hk35 c η H a1 a2 x4 x5 x6 ha1 ha2 ρ
theorem jn_53_35 (k : Nat) {δ : gb_S} : ∀ (c : Int) (η : gb_S), DHd c δ η → ∀ (a1 : Nat) (a2 : Nat) (x4 : Int) (x5 : Int) (x6 : Int) (ha1 : 5 ≤ a1) (ha2 : 5 ≤ a2) (ρ : gb_S), fx_53_35 k a1 a2 x4 x5 x6 (Jd η ρ) = jop (Jd η) (jhm δ (fx_53_35 k a1 a2 x4 x5 x6) ρ) := by
  induction k with
  | zero => intros; rfl
  | succ k ih =>
    intro c η H a1 a2 x4 x5 x6 ha1 ha2 ρ
    have H1 := H.one
    show _ = jop (Jd η) (fx_53_35 (k + 1) a1 a2 x4 x5 x6 (Jd δ ρ))
    rw [fx_53_35, fx_53_35]
    simp (disch := omega) only [Jd_rd, Jd_up, Jd_fi, Jd_cp, Jd_J, gc_jop, jop_gf, jop_gc, jop_q, jop_i, jop_s, jop_n, jop_j, (jm_53_53 _ ih H), (jm_53_53 _ ih H1), (ih c η H), (ih 1 δ H1)]
theorem jm_53_35 (k : Nat) {δ : gb_S} {c : Int} {η : gb_S} (H : DHd c δ η) (a1 : Nat) (a2 : Nat) (x4 : Int) (x5 : Int) (x6 : Int) (ha1 : 5 ≤ a1) (ha2 : 5 ≤ a2) (ρ : gb_S) : fx_53_35 k a1 a2 x4 x5 x6 (Jd η ρ) = jop (Jd η) (jhm δ (fx_53_35 k a1 a2 x4 x5 x6) ρ) := jn_53_35 k c η H a1 a2 x4 x5 x6 ha1 ha2 ρ
theorem jm_53 {δ : gb_S} {c : Int} {η : gb_S} (H : DHd c δ η) (a1 : Nat) (a2 : Nat) (a3 : Nat) (ha1 : 5 ≤ a1) (ha2 : 5 ≤ a2) (ha3 : 5 ≤ a3) (ρ : gb_S) : fx_53 a1 a2 a3 (Jd η ρ) = jop (Jd η) (jhm δ (fx_53 a1 a2 a3) ρ) := by
  have H1 := H.one
  show _ = jop (Jd η) (fx_53 a1 a2 a3 (Jd δ ρ))
  unfold fx_53
  simp (disch := omega) only [Jd_rd, Jd_up, Jd_fi, Jd_cp, Jd_J, gc_jop, jop_gf, jop_gc, jop_q, jop_i, jop_s, jop_n, jop_j, (jm_19 H), (jm_19 H1), (jm_57 H), (jm_57 H1), (jm_55 H), (jm_55 H1), (jm_53_35 _ H), (jm_53_35 _ H1)]
theorem jm_52 {δ : gb_S} {c : Int} {η : gb_S} (H : DHd c δ η) (a1 : Nat) (ha1 : 5 ≤ a1) (ρ : gb_S) : fx_52 a1 (Jd η ρ) = jop (Jd η) (jhm δ (fx_52 a1) ρ) := by
  have H1 := H.one
  show _ = jop (Jd η) (fx_52 a1 (Jd δ ρ))
  unfold fx_52
  simp (disch := omega) only [Jd_rd, Jd_up, Jd_fi, Jd_cp, Jd_J, gc_jop, jop_gf, jop_gc, jop_q, jop_i, jop_s, jop_n, jop_j, (jm_53 H), (jm_53 H1)]
theorem jm_47 {δ : gb_S} {c : Int} {η : gb_S} (H : DHd c δ η) (a1 : Nat) (ha1 : 5 ≤ a1) (ρ : gb_S) : fx_47 a1 (Jd η ρ) = jop (Jd η) (jhm δ (fx_47 a1) ρ) := by
  have H1 := H.one
  show _ = jop (Jd η) (fx_47 a1 (Jd δ ρ))
  unfold fx_47
  simp (disch := omega) only [Jd_rd, Jd_up, Jd_fi, Jd_cp, Jd_J, gc_jop, jop_gf, jop_gc, jop_q, jop_i, jop_s, jop_n, jop_j, (jm_48 H), (jm_48 H1), (jm_52 H), (jm_52 H1)]
theorem jm_56 {δ : gb_S} {c : Int} {η : gb_S} (H : DHd c δ η) (x0 : Int) (ρ : gb_S) : fx_56 x0 (Jd η ρ) = jop (Jd η) (jhm δ (fx_56 x0) ρ) := by
  have H1 := H.one
  show _ = jop (Jd η) (fx_56 x0 (Jd δ ρ))
  unfold fx_56
  simp (disch := omega) only [Jd_rd, Jd_up, Jd_fi, Jd_cp, Jd_J, gc_jop, jop_gf, jop_gc, jop_q, jop_i, jop_s, jop_n, jop_j]
theorem jn_49_131 (k : Nat) {δ : gb_S} : ∀ (c : Int) (η : gb_S), DHd c δ η → ∀ (x3 : Int) (x4 : Int) (ρ : gb_S), fx_49_131 k x3 x4 (Jd η ρ) = jop (Jd η) (jhm δ (fx_49_131 k x3 x4) ρ) := by
  induction k with
  | zero => intros; rfl
  | succ k ih =>
    intro c η H x3 x4 ρ
    have H1 := H.one
    show _ = jop (Jd η) (fx_49_131 (k + 1) x3 x4 (Jd δ ρ))
    rw [fx_49_131, fx_49_131]
    simp (disch := omega) only [Jd_rd, Jd_up, Jd_fi, Jd_cp, Jd_J, gc_jop, jop_gf, jop_gc, jop_q, jop_i, jop_s, jop_n, jop_j, (ih c η H), (ih 1 δ H1)]
theorem jm_49_131 (k : Nat) {δ : gb_S} {c : Int} {η : gb_S} (H : DHd c δ η) (x3 : Int) (x4 : Int) (ρ : gb_S) : fx_49_131 k x3 x4 (Jd η ρ) = jop (Jd η) (jhm δ (fx_49_131 k x3 x4) ρ) := jn_49_131 k c η H x3 x4 ρ
theorem jn_49_66 (k : Nat) {δ : gb_S} : ∀ (c : Int) (η : gb_S), DHd c δ η → ∀ (x3 : Int) (ρ : gb_S), fx_49_66 k x3 (Jd η ρ) = jop (Jd η) (jhm δ (fx_49_66 k x3) ρ) := by
  induction k with
  | zero => intros; rfl
  | succ k ih =>
    intro c η H x3 ρ
    have H1 := H.one
    show _ = jop (Jd η) (fx_49_66 (k + 1) x3 (Jd δ ρ))
    rw [fx_49_66, fx_49_66]
    simp (disch := omega) only [Jd_rd, Jd_up, Jd_fi, Jd_cp, Jd_J, gc_jop, jop_gf, jop_gc, jop_q, jop_i, jop_s, jop_n, jop_j, (jm_51 H), (jm_51 H1), (ih c η H), (ih 1 δ H1), (jm_56 H), (jm_56 H1), (jm_52 H), (jm_52 H1), (jm_49_131 _ H), (jm_49_131 _ H1)]
theorem jm_49_66 (k : Nat) {δ : gb_S} {c : Int} {η : gb_S} (H : DHd c δ η) (x3 : Int) (ρ : gb_S) : fx_49_66 k x3 (Jd η ρ) = jop (Jd η) (jhm δ (fx_49_66 k x3) ρ) := jn_49_66 k c η H x3 ρ
theorem jm_49 {δ : gb_S} {c : Int} {η : gb_S} (H : DHd c δ η) (x1 : Int) (ρ : gb_S) : fx_49 x1 (Jd η ρ) = jop (Jd η) (jhm δ (fx_49 x1) ρ) := by
  have H1 := H.one
  show _ = jop (Jd η) (fx_49 x1 (Jd δ ρ))
  unfold fx_49
  simp (disch := omega) only [Jd_rd, Jd_up, Jd_fi, Jd_cp, Jd_J, gc_jop, jop_gf, jop_gc, jop_q, jop_i, jop_s, jop_n, jop_j, (jm_56 H), (jm_56 H1), (jm_49_66 _ H), (jm_49_66 _ H1)]
theorem jn_50_10 (k : Nat) {δ : gb_S} : ∀ (c : Int) (η : gb_S), DHd c δ η → ∀ (x1 : Int) (x3 : Int) (ρ : gb_S), fx_50_10 k x1 x3 (Jd η ρ) = jop (Jd η) (jhm δ (fx_50_10 k x1 x3) ρ) := by
  induction k with
  | zero => intros; rfl
  | succ k ih =>
    intro c η H x1 x3 ρ
    have H1 := H.one
    show _ = jop (Jd η) (fx_50_10 (k + 1) x1 x3 (Jd δ ρ))
    rw [fx_50_10, fx_50_10]
    simp (disch := omega) only [Jd_rd, Jd_up, Jd_fi, Jd_cp, Jd_J, gc_jop, jop_gf, jop_gc, jop_q, jop_i, jop_s, jop_n, jop_j, (jm_51 H), (jm_51 H1), (ih c η H), (ih 1 δ H1), (jm_56 H), (jm_56 H1), (jm_53 H), (jm_53 H1)]
theorem jm_50_10 (k : Nat) {δ : gb_S} {c : Int} {η : gb_S} (H : DHd c δ η) (x1 : Int) (x3 : Int) (ρ : gb_S) : fx_50_10 k x1 x3 (Jd η ρ) = jop (Jd η) (jhm δ (fx_50_10 k x1 x3) ρ) := jn_50_10 k c η H x1 x3 ρ
theorem jm_50 {δ : gb_S} {c : Int} {η : gb_S} (H : DHd c δ η) (x1 : Int) (ρ : gb_S) : fx_50 x1 (Jd η ρ) = jop (Jd η) (jhm δ (fx_50 x1) ρ) := by
  have H1 := H.one
  show _ = jop (Jd η) (fx_50 x1 (Jd δ ρ))
  unfold fx_50
  simp (disch := omega) only [Jd_rd, Jd_up, Jd_fi, Jd_cp, Jd_J, gc_jop, jop_gf, jop_gc, jop_q, jop_i, jop_s, jop_n, jop_j, (jm_50_10 _ H), (jm_50_10 _ H1)]
theorem jm_59 {δ : gb_S} {c : Int} {η : gb_S} (H : DHd c δ η) (x1 : Int) (x2 : Int) (x3 : Int) (ρ : gb_S) : fx_59 x1 x2 x3 (Jd η ρ) = jop (Jd η) (jhm δ (fx_59 x1 x2 x3) ρ) := by
  have H1 := H.one
  show _ = jop (Jd η) (fx_59 x1 x2 x3 (Jd δ ρ))
  unfold fx_59
  simp (disch := omega) only [Jd_rd, Jd_up, Jd_fi, Jd_cp, Jd_J, gc_jop, jop_gf, jop_gc, jop_q, jop_i, jop_s, jop_n, jop_j]
theorem jm_60 {δ : gb_S} {c : Int} {η : gb_S} (H : DHd c δ η) (x1 : Int) (x2 : Int) (ρ : gb_S) : fx_60 x1 x2 (Jd η ρ) = jop (Jd η) (jhm δ (fx_60 x1 x2) ρ) := by
  have H1 := H.one
  show _ = jop (Jd η) (fx_60 x1 x2 (Jd δ ρ))
  unfold fx_60
  simp (disch := omega) only [Jd_rd, Jd_up, Jd_fi, Jd_cp, Jd_J, gc_jop, jop_gf, jop_gc, jop_q, jop_i, jop_s, jop_n, jop_j, (jm_63 H), (jm_63 H1)]
theorem jm_64 {δ : gb_S} {c : Int} {η : gb_S} (H : DHd c δ η) (x1 : Int) (ρ : gb_S) : fx_64 x1 (Jd η ρ) = jop (Jd η) (jhm δ (fx_64 x1) ρ) := by
  have H1 := H.one
  show _ = jop (Jd η) (fx_64 x1 (Jd δ ρ))
  unfold fx_64
  simp (disch := omega) only [Jd_rd, Jd_up, Jd_fi, Jd_cp, Jd_J, gc_jop, jop_gf, jop_gc, jop_q, jop_i, jop_s, jop_n, jop_j]
theorem jm_62 {δ : gb_S} {c : Int} {η : gb_S} (H : DHd c δ η) (x1 : Int) (ρ : gb_S) : fx_62 x1 (Jd η ρ) = jop (Jd η) (jhm δ (fx_62 x1) ρ) := by
  have H1 := H.one
  show _ = jop (Jd η) (fx_62 x1 (Jd δ ρ))
  unfold fx_62
  simp (disch := omega) only [Jd_rd, Jd_up, Jd_fi, Jd_cp, Jd_J, gc_jop, jop_gf, jop_gc, jop_q, jop_i, jop_s, jop_n, jop_j, (jm_64 H), (jm_64 H1), (jm_63 H), (jm_63 H1)]
theorem jn_61_43 (k : Nat) {δ : gb_S} : ∀ (c : Int) (η : gb_S), DHd c δ η → ∀ (x3 : Int) (x4 : Int) (ρ : gb_S), fx_61_43 k x3 x4 (Jd η ρ) = jop (Jd η) (jhm δ (fx_61_43 k x3 x4) ρ) := by
  induction k with
  | zero => intros; rfl
  | succ k ih =>
    intro c η H x3 x4 ρ
    have H1 := H.one
    show _ = jop (Jd η) (fx_61_43 (k + 1) x3 x4 (Jd δ ρ))
    rw [fx_61_43, fx_61_43]
    simp (disch := omega) only [Jd_rd, Jd_up, Jd_fi, Jd_cp, Jd_J, gc_jop, jop_gf, jop_gc, jop_q, jop_i, jop_s, jop_n, jop_j, (jm_62 H), (jm_62 H1), (ih c η H), (ih 1 δ H1)]
theorem jm_61_43 (k : Nat) {δ : gb_S} {c : Int} {η : gb_S} (H : DHd c δ η) (x3 : Int) (x4 : Int) (ρ : gb_S) : fx_61_43 k x3 x4 (Jd η ρ) = jop (Jd η) (jhm δ (fx_61_43 k x3 x4) ρ) := jn_61_43 k c η H x3 x4 ρ
theorem jm_61 {δ : gb_S} {c : Int} {η : gb_S} (H : DHd c δ η) (x1 : Int) (x2 : Int) (ρ : gb_S) : fx_61 x1 x2 (Jd η ρ) = jop (Jd η) (jhm δ (fx_61 x1 x2) ρ) := by
  have H1 := H.one
  show _ = jop (Jd η) (fx_61 x1 x2 (Jd δ ρ))
  unfold fx_61
  simp (disch := omega) only [Jd_rd, Jd_up, Jd_fi, Jd_cp, Jd_J, gc_jop, jop_gf, jop_gc, jop_q, jop_i, jop_s, jop_n, jop_j, (jm_64 H), (jm_64 H1), (jm_62 H), (jm_62 H1), (jm_63 H), (jm_63 H1), (jm_61_43 _ H), (jm_61_43 _ H1)]
theorem jm_65 {δ : gb_S} {c : Int} {η : gb_S} (H : DHd c δ η) (x1 : Int) (ρ : gb_S) : fx_65 x1 (Jd η ρ) = jop (Jd η) (jhm δ (fx_65 x1) ρ) := by
  have H1 := H.one
  show _ = jop (Jd η) (fx_65 x1 (Jd δ ρ))
  unfold fx_65
  simp (disch := omega) only [Jd_rd, Jd_up, Jd_fi, Jd_cp, Jd_J, gc_jop, jop_gf, jop_gc, jop_q, jop_i, jop_s, jop_n, jop_j, (jm_63 H), (jm_63 H1)]
theorem jn_66_4 (k : Nat) {δ : gb_S} : ∀ (c : Int) (η : gb_S), DHd c δ η → ∀ (x1 : Int) (x2 : Int) (x3 : Int) (ρ : gb_S), fx_66_4 k x1 x2 x3 (Jd η ρ) = jop (Jd η) (jhm δ (fx_66_4 k x1 x2 x3) ρ) := by
  induction k with
  | zero => intros; rfl
  | succ k ih =>
    intro c η H x1 x2 x3 ρ
    have H1 := H.one
    show _ = jop (Jd η) (fx_66_4 (k + 1) x1 x2 x3 (Jd δ ρ))
    rw [fx_66_4, fx_66_4]
    simp (disch := omega) only [Jd_rd, Jd_up, Jd_fi, Jd_cp, Jd_J, gc_jop, jop_gf, jop_gc, jop_q, jop_i, jop_s, jop_n, jop_j, (ih c η H), (ih 1 δ H1)]
theorem jm_66_4 (k : Nat) {δ : gb_S} {c : Int} {η : gb_S} (H : DHd c δ η) (x1 : Int) (x2 : Int) (x3 : Int) (ρ : gb_S) : fx_66_4 k x1 x2 x3 (Jd η ρ) = jop (Jd η) (jhm δ (fx_66_4 k x1 x2 x3) ρ) := jn_66_4 k c η H x1 x2 x3 ρ
theorem jm_66 {δ : gb_S} {c : Int} {η : gb_S} (H : DHd c δ η) (x1 : Int) (ρ : gb_S) : fx_66 x1 (Jd η ρ) = jop (Jd η) (jhm δ (fx_66 x1) ρ) := by
  have H1 := H.one
  show _ = jop (Jd η) (fx_66 x1 (Jd δ ρ))
  unfold fx_66
  simp (disch := omega) only [Jd_rd, Jd_up, Jd_fi, Jd_cp, Jd_J, gc_jop, jop_gf, jop_gc, jop_q, jop_i, jop_s, jop_n, jop_j, (jm_66_4 _ H), (jm_66_4 _ H1)]
theorem jm_70 {δ : gb_S} {c : Int} {η : gb_S} (H : DHd c δ η) (a0 : Nat) (a1 : Nat) (ha0 : 5 ≤ a0) (ha1 : 5 ≤ a1) (ρ : gb_S) : fx_70 a0 a1 (Jd η ρ) = jop (Jd η) (jhm δ (fx_70 a0 a1) ρ) := by
  have H1 := H.one
  show _ = jop (Jd η) (fx_70 a0 a1 (Jd δ ρ))
  unfold fx_70
  simp (disch := omega) only [Jd_rd, Jd_up, Jd_fi, Jd_cp, Jd_J, gc_jop, jop_gf, jop_gc, jop_q, jop_i, jop_s, jop_n, jop_j]
theorem jn_75_4 (k : Nat) {δ : gb_S} : ∀ (c : Int) (η : gb_S), DHd c δ η → ∀ (a0 : Nat) (x1 : Int) (x2 : Int) (ha0 : 5 ≤ a0) (ρ : gb_S), fx_75_4 k a0 x1 x2 (Jd η ρ) = jop (Jd η) (jhm δ (fx_75_4 k a0 x1 x2) ρ) := by
  induction k with
  | zero => intros; rfl
  | succ k ih =>
    intro c η H a0 x1 x2 ha0 ρ
    have H1 := H.one
    show _ = jop (Jd η) (fx_75_4 (k + 1) a0 x1 x2 (Jd δ ρ))
    rw [fx_75_4, fx_75_4]
    simp (disch := omega) only [Jd_rd, Jd_up, Jd_fi, Jd_cp, Jd_J, gc_jop, jop_gf, jop_gc, jop_q, jop_i, jop_s, jop_n, jop_j, (ih c η H), (ih 1 δ H1)]
theorem jm_75_4 (k : Nat) {δ : gb_S} {c : Int} {η : gb_S} (H : DHd c δ η) (a0 : Nat) (x1 : Int) (x2 : Int) (ha0 : 5 ≤ a0) (ρ : gb_S) : fx_75_4 k a0 x1 x2 (Jd η ρ) = jop (Jd η) (jhm δ (fx_75_4 k a0 x1 x2) ρ) := jn_75_4 k c η H a0 x1 x2 ha0 ρ
theorem jm_75 {δ : gb_S} {c : Int} {η : gb_S} (H : DHd c δ η) (a0 : Nat) (ha0 : 5 ≤ a0) (ρ : gb_S) : fx_75 a0 (Jd η ρ) = jop (Jd η) (jhm δ (fx_75 a0) ρ) := by
  have H1 := H.one
  show _ = jop (Jd η) (fx_75 a0 (Jd δ ρ))
  unfold fx_75
  simp (disch := omega) only [Jd_rd, Jd_up, Jd_fi, Jd_cp, Jd_J, gc_jop, jop_gf, jop_gc, jop_q, jop_i, jop_s, jop_n, jop_j, (jm_75_4 _ H), (jm_75_4 _ H1)]
theorem jn_76_2 (k : Nat) {δ : gb_S} : ∀ (c : Int) (η : gb_S), DHd c δ η → ∀ (a0 : Nat) (a1 : Nat) (x2 : Int) (ha0 : 5 ≤ a0) (ha1 : 5 ≤ a1) (ρ : gb_S), fx_76_2 k a0 a1 x2 (Jd η ρ) = jop (Jd η) (jhm δ (fx_76_2 k a0 a1 x2) ρ) := by
  induction k with
  | zero => intros; rfl
  | succ k ih =>
    intro c η H a0 a1 x2 ha0 ha1 ρ
    have H1 := H.one
    show _ = jop (Jd η) (fx_76_2 (k + 1) a0 a1 x2 (Jd δ ρ))
    rw [fx_76_2, fx_76_2]
    simp (disch := omega) only [Jd_rd, Jd_up, Jd_fi, Jd_cp, Jd_J, gc_jop, jop_gf, jop_gc, jop_q, jop_i, jop_s, jop_n, jop_j, (ih c η H), (ih 1 δ H1)]
theorem jm_76_2 (k : Nat) {δ : gb_S} {c : Int} {η : gb_S} (H : DHd c δ η) (a0 : Nat) (a1 : Nat) (x2 : Int) (ha0 : 5 ≤ a0) (ha1 : 5 ≤ a1) (ρ : gb_S) : fx_76_2 k a0 a1 x2 (Jd η ρ) = jop (Jd η) (jhm δ (fx_76_2 k a0 a1 x2) ρ) := jn_76_2 k c η H a0 a1 x2 ha0 ha1 ρ
end JJ2
