section JJ3
theorem jm_76 {δ : gb_S} {c : Int} {η : gb_S} (H : DHd c δ η) (a0 : Nat) (a1 : Nat) (ha0 : 5 ≤ a0) (ha1 : 5 ≤ a1) (ρ : gb_S) : fx_76 a0 a1 (Jd η ρ) = jop (Jd η) (jhm δ (fx_76 a0 a1) ρ) := by
  have H1 := H.one
  show _ = jop (Jd η) (fx_76 a0 a1 (Jd δ ρ))
  unfold fx_76
  simp (disch := omega) only [Jd_rd, Jd_up, Jd_fi, Jd_cp, Jd_J, gc_jop, jop_gf, jop_gc, jop_q, jop_i, jop_s, jop_n, jop_j, (jm_76_2 _ H), (jm_76_2 _ H1)]
theorem jm_110 {δ : gb_S} {c : Int} {η : gb_S} (H : DHd c δ η) (x1 : Int) (ρ : gb_S) : fx_110 x1 (Jd η ρ) = jop (Jd η) (jhm δ (fx_110 x1) ρ) := by
  have H1 := H.one
  show _ = jop (Jd η) (fx_110 x1 (Jd δ ρ))
  unfold fx_110
  simp (disch := omega) only [Jd_rd, Jd_up, Jd_fi, Jd_cp, Jd_J, gc_jop, jop_gf, jop_gc, jop_q, jop_i, jop_s, jop_n, jop_j]
theorem jm_116 {δ : gb_S} {c : Int} {η : gb_S} (H : DHd c δ η) (x1 : Int) (ρ : gb_S) : fx_116 x1 (Jd η ρ) = jop (Jd η) (jhm δ (fx_116 x1) ρ) := by
  have H1 := H.one
  show _ = jop (Jd η) (fx_116 x1 (Jd δ ρ))
  unfold fx_116
  simp (disch := omega) only [Jd_rd, Jd_up, Jd_fi, Jd_cp, Jd_J, gc_jop, jop_gf, jop_gc, jop_q, jop_i, jop_s, jop_n, jop_j, (jm_24 H), (jm_24 H1)]
theorem jn_82_26 (k : Nat) {δ : gb_S} : ∀ (c : Int) (η : gb_S), DHd c δ η → ∀ (x1 : Int) (x2 : Int) (x3 : Int) (ρ : gb_S), fx_82_26 k x1 x2 x3 (Jd η ρ) = jop (Jd η) (jhm δ (fx_82_26 k x1 x2 x3) ρ) := by
  induction k with
  | zero => intros; rfl
  | succ k ih =>
    intro c η H x1 x2 x3 ρ
    have H1 := H.one
    show _ = jop (Jd η) (fx_82_26 (k + 1) x1 x2 x3 (Jd δ ρ))
    rw [fx_82_26, fx_82_26]
    simp (disch := omega) only [Jd_rd, Jd_up, Jd_fi, Jd_cp, Jd_J, gc_jop, jop_gf, jop_gc, jop_q, jop_i, jop_s, jop_n, jop_j, (jm_17 H), (jm_17 H1), (ih c η H), (ih 1 δ H1)]
theorem jm_82_26 (k : Nat) {δ : gb_S} {c : Int} {η : gb_S} (H : DHd c δ η) (x1 : Int) (x2 : Int) (x3 : Int) (ρ : gb_S) : fx_82_26 k x1 x2 x3 (Jd η ρ) = jop (Jd η) (jhm δ (fx_82_26 k x1 x2 x3) ρ) := jn_82_26 k c η H x1 x2 x3 ρ
theorem jm_83 {δ : gb_S} {c : Int} {η : gb_S} (H : DHd c δ η) (ρ : gb_S) : fx_83 (Jd η ρ) = jop (Jd η) (jhm δ (fx_83) ρ) := by
  have H1 := H.one
  show _ = jop (Jd η) (fx_83 (Jd δ ρ))
  unfold fx_83
  simp (disch := omega) only [Jd_rd, Jd_up, Jd_fi, Jd_cp, Jd_J, gc_jop, jop_gf, jop_gc, jop_q, jop_i, jop_s, jop_n, jop_j]
theorem jm_84 {δ : gb_S} {c : Int} {η : gb_S} (H : DHd c δ η) (x1 : Int) (ρ : gb_S) : fx_84 x1 (Jd η ρ) = jop (Jd η) (jhm δ (fx_84 x1) ρ) := by
  have H1 := H.one
  show _ = jop (Jd η) (fx_84 x1 (Jd δ ρ))
  unfold fx_84
  simp (disch := omega) only [Jd_rd, Jd_up, Jd_fi, Jd_cp, Jd_J, gc_jop, jop_gf, jop_gc, jop_q, jop_i, jop_s, jop_n, jop_j, (jm_110 H), (jm_110 H1), (jm_24 H), (jm_24 H1)]
theorem jm_113 {δ : gb_S} {c : Int} {η : gb_S} (H : DHd c δ η) (x1 : Int) (x2 : Int) (ρ : gb_S) : fx_113 x1 x2 (Jd η ρ) = jop (Jd η) (jhm δ (fx_113 x1 x2) ρ) := by
  have H1 := H.one
  show _ = jop (Jd η) (fx_113 x1 x2 (Jd δ ρ))
  unfold fx_113
  simp (disch := omega) only [Jd_rd, Jd_up, Jd_fi, Jd_cp, Jd_J, gc_jop, jop_gf, jop_gc, jop_q, jop_i, jop_s, jop_n, jop_j]
theorem jm_122 {δ : gb_S} {c : Int} {η : gb_S} (H : DHd c δ η) (a1 : Nat) (ha1 : 5 ≤ a1) (ρ : gb_S) : fx_122 a1 (Jd η ρ) = jop (Jd η) (jhm δ (fx_122 a1) ρ) := by
  have H1 := H.one
  show _ = jop (Jd η) (fx_122 a1 (Jd δ ρ))
  unfold fx_122
  simp (disch := omega) only [Jd_rd, Jd_up, Jd_fi, Jd_cp, Jd_J, gc_jop, jop_gf, jop_gc, jop_q, jop_i, jop_s, jop_n, jop_j, (jm_1 H), (jm_1 H1), (jm_76 H), (jm_76 H1), (jm_70 H), (jm_70 H1)]
theorem jn_121_18 (k : Nat) {δ : gb_S} : ∀ (c : Int) (η : gb_S), DHd c δ η → ∀ (x1 : Int) (x2 : Int) (ρ : gb_S), fx_121_18 k x1 x2 (Jd η ρ) = jop (Jd η) (jhm δ (fx_121_18 k x1 x2) ρ) := by
  induction k with
  | zero => intros; rfl
  | succ k ih =>
    intro c η H x1 x2 ρ
    have H1 := H.one
    show _ = jop (Jd η) (fx_121_18 (k + 1) x1 x2 (Jd δ ρ))
    rw [fx_121_18, fx_121_18]
    simp (disch := omega) only [Jd_rd, Jd_up, Jd_fi, Jd_cp, Jd_J, gc_jop, jop_gf, jop_gc, jop_q, jop_i, jop_s, jop_n, jop_j, (ih c η H), (ih 1 δ H1), (jm_122 H), (jm_122 H1), (jm_49 H), (jm_49 H1)]
theorem jm_121_18 (k : Nat) {δ : gb_S} {c : Int} {η : gb_S} (H : DHd c δ η) (x1 : Int) (x2 : Int) (ρ : gb_S) : fx_121_18 k x1 x2 (Jd η ρ) = jop (Jd η) (jhm δ (fx_121_18 k x1 x2) ρ) := jn_121_18 k c η H x1 x2 ρ
theorem jm_121 {δ : gb_S} {c : Int} {η : gb_S} (H : DHd c δ η) (ρ : gb_S) : fx_121 (Jd η ρ) = jop (Jd η) (jhm δ (fx_121) ρ) := by
  have H1 := H.one
  show _ = jop (Jd η) (fx_121 (Jd δ ρ))
  unfold fx_121
  simp (disch := omega) only [Jd_rd, Jd_up, Jd_fi, Jd_cp, Jd_J, gc_jop, jop_gf, jop_gc, jop_q, jop_i, jop_s, jop_n, jop_j, (jm_35 H), (jm_35 H1), (jm_121_18 _ H), (jm_121_18 _ H1)]
theorem jm_85 {δ : gb_S} {c : Int} {η : gb_S} (H : DHd c δ η) (x1 : Int) (x2 : Int) (x3 : Int) (ρ : gb_S) : fx_85 x1 x2 x3 (Jd η ρ) = jop (Jd η) (jhm δ (fx_85 x1 x2 x3) ρ) := by
  have H1 := H.one
  show _ = jop (Jd η) (fx_85 x1 x2 x3 (Jd δ ρ))
  unfold fx_85
  simp (disch := omega) only [Jd_rd, Jd_up, Jd_fi, Jd_cp, Jd_J, gc_jop, jop_gf, jop_gc, jop_q, jop_i, jop_s, jop_n, jop_j, (jm_110 H), (jm_110 H1), (jm_113 H), (jm_113 H1), (jm_27 H), (jm_27 H1), (jm_59 H), (jm_59 H1), (jm_121 H), (jm_121 H1)]
theorem jm_111 {δ : gb_S} {c : Int} {η : gb_S} (H : DHd c δ η) (x1 : Int) (ρ : gb_S) : fx_111 x1 (Jd η ρ) = jop (Jd η) (jhm δ (fx_111 x1) ρ) := by
  have H1 := H.one
  show _ = jop (Jd η) (fx_111 x1 (Jd δ ρ))
  unfold fx_111
  simp (disch := omega) only [Jd_rd, Jd_up, Jd_fi, Jd_cp, Jd_J, gc_jop, jop_gf, jop_gc, jop_q, jop_i, jop_s, jop_n, jop_j]
theorem jm_86 {δ : gb_S} {c : Int} {η : gb_S} (H : DHd c δ η) (x1 : Int) (x2 : Int) (ρ : gb_S) : fx_86 x1 x2 (Jd η ρ) = jop (Jd η) (jhm δ (fx_86 x1 x2) ρ) := by
  have H1 := H.one
  show _ = jop (Jd η) (fx_86 x1 x2 (Jd δ ρ))
  unfold fx_86
  simp (disch := omega) only [Jd_rd, Jd_up, Jd_fi, Jd_cp, Jd_J, gc_jop, jop_gf, jop_gc, jop_q, jop_i, jop_s, jop_n, jop_j, (jm_111 H), (jm_111 H1), (jm_113 H), (jm_113 H1), (jm_65 H), (jm_65 H1), (jm_60 H), (jm_60 H1), (jm_121 H), (jm_121 H1)]
theorem jm_87 {δ : gb_S} {c : Int} {η : gb_S} (H : DHd c δ η) (x1 : Int) (x2 : Int) (ρ : gb_S) : fx_87 x1 x2 (Jd η ρ) = jop (Jd η) (jhm δ (fx_87 x1 x2) ρ) := by
  have H1 := H.one
  show _ = jop (Jd η) (fx_87 x1 x2 (Jd δ ρ))
  unfold fx_87
  simp (disch := omega) only [Jd_rd, Jd_up, Jd_fi, Jd_cp, Jd_J, gc_jop, jop_gf, jop_gc, jop_q, jop_i, jop_s, jop_n, jop_j, (jm_64 H), (jm_64 H1), (jm_61 H), (jm_61 H1), (jm_121 H), (jm_121 H1)]
theorem jm_88 {δ : gb_S} {c : Int} {η : gb_S} (H : DHd c δ η) (x1 : Int) (ρ : gb_S) : fx_88 x1 (Jd η ρ) = jop (Jd η) (jhm δ (fx_88 x1) ρ) := by
  have H1 := H.one
  show _ = jop (Jd η) (fx_88 x1 (Jd δ ρ))
  unfold fx_88
  simp (disch := omega) only [Jd_rd, Jd_up, Jd_fi, Jd_cp, Jd_J, gc_jop, jop_gf, jop_gc, jop_q, jop_i, jop_s, jop_n, jop_j, (jm_111 H), (jm_111 H1), (jm_67 H), (jm_67 H1)]
theorem jn_89_4 (k : Nat) {δ : gb_S} : ∀ (c : Int) (η : gb_S), DHd c δ η → ∀ (x1 : Int) (x2 : Int) (ρ : gb_S), fx_89_4 k x1 x2 (Jd η ρ) = jop (Jd η) (jhm δ (fx_89_4 k x1 x2) ρ) := by
  induction k with
  | zero => intros; rfl
  | succ k ih =>
    intro c η H x1 x2 ρ
    have H1 := H.one
    show _ = jop (Jd η) (fx_89_4 (k + 1) x1 x2 (Jd δ ρ))
    rw [fx_89_4, fx_89_4]
    simp (disch := omega) only [Jd_rd, Jd_up, Jd_fi, Jd_cp, Jd_J, gc_jop, jop_gf, jop_gc, jop_q, jop_i, jop_s, jop_n, jop_j, (jm_64 H), (jm_64 H1), (ih c η H), (ih 1 δ H1)]
theorem jm_89_4 (k : Nat) {δ : gb_S} {c : Int} {η : gb_S} (H : DHd c δ η) (x1 : Int) (x2 : Int) (ρ : gb_S) : fx_89_4 k x1 x2 (Jd η ρ) = jop (Jd η) (jhm δ (fx_89_4 k x1 x2) ρ) := jn_89_4 k c η H x1 x2 ρ
theorem jm_89 {δ : gb_S} {c : Int} {η : gb_S} (H : DHd c δ η) (ρ : gb_S) : fx_89 (Jd η ρ) = jop (Jd η) (jhm δ (fx_89) ρ) := by
  have H1 := H.one
  show _ = jop (Jd η) (fx_89 (Jd δ ρ))
  unfold fx_89
  simp (disch := omega) only [Jd_rd, Jd_up, Jd_fi, Jd_cp, Jd_J, gc_jop, jop_gf, jop_gc, jop_q, jop_i, jop_s, jop_n, jop_j, (jm_89_4 _ H), (jm_89_4 _ H1)]
theorem jm_90_24 {δ : gb_S} {c : Int} {η : gb_S} (H : DHd c δ η) (x1 : Int) (x2 : Int) (ρ : gb_S) : fx_90_24 x1 x2 (Jd η ρ) = jop (Jd η) (jhm δ (fx_90_24 x1 x2) ρ) := by
  have H1 := H.one
  show _ = jop (Jd η) (fx_90_24 x1 x2 (Jd δ ρ))
  unfold fx_90_24
  simp (disch := omega) only [Jd_rd, Jd_up, Jd_fi, Jd_cp, Jd_J, gc_jop, jop_gf, jop_gc, jop_q, jop_i, jop_s, jop_n, jop_j, (jm_30 H), (jm_30 H1), (jm_31 H), (jm_31 H1)]
theorem jm_90 {δ : gb_S} {c : Int} {η : gb_S} (H : DHd c δ η) (x1 : Int) (x2 : Int) (ρ : gb_S) : fx_90 x1 x2 (Jd η ρ) = jop (Jd η) (jhm δ (fx_90 x1 x2) ρ) := by
  have H1 := H.one
  show _ = jop (Jd η) (fx_90 x1 x2 (Jd δ ρ))
  unfold fx_90
  simp (disch := omega) only [Jd_rd, Jd_up, Jd_fi, Jd_cp, Jd_J, gc_jop, jop_gf, jop_gc, jop_q, jop_i, jop_s, jop_n, jop_j, (jm_110 H), (jm_110 H1), (jm_90_24 H), (jm_90_24 H1)]
theorem jm_91 {δ : gb_S} {c : Int} {η : gb_S} (H : DHd c δ η) (x1 : Int) (ρ : gb_S) : fx_91 x1 (Jd η ρ) = jop (Jd η) (jhm δ (fx_91 x1) ρ) := by
  have H1 := H.one
  show _ = jop (Jd η) (fx_91 x1 (Jd δ ρ))
  unfold fx_91
  simp (disch := omega) only [Jd_rd, Jd_up, Jd_fi, Jd_cp, Jd_J, gc_jop, jop_gf, jop_gc, jop_q, jop_i, jop_s, jop_n, jop_j, (jm_110 H), (jm_110 H1), (jm_32 H), (jm_32 H1)]
theorem jm_114 {δ : gb_S} {c : Int} {η : gb_S} (H : DHd c δ η) (x1 : Int) (x2 : Int) (ρ : gb_S) : fx_114 x1 x2 (Jd η ρ) = jop (Jd η) (jhm δ (fx_114 x1 x2) ρ) := by
  have H1 := H.one
  show _ = jop (Jd η) (fx_114 x1 x2 (Jd δ ρ))
  unfold fx_114
  simp (disch := omega) only [Jd_rd, Jd_up, Jd_fi, Jd_cp, Jd_J, gc_jop, jop_gf, jop_gc, jop_q, jop_i, jop_s, jop_n, jop_j]
theorem jm_92 {δ : gb_S} {c : Int} {η : gb_S} (H : DHd c δ η) (x1 : Int) (x2 : Int) (x3 : Int) (ρ : gb_S) : fx_92 x1 x2 x3 (Jd η ρ) = jop (Jd η) (jhm δ (fx_92 x1 x2 x3) ρ) := by
  have H1 := H.one
  show _ = jop (Jd η) (fx_92 x1 x2 x3 (Jd δ ρ))
  unfold fx_92
  simp (disch := omega) only [Jd_rd, Jd_up, Jd_fi, Jd_cp, Jd_J, gc_jop, jop_gf, jop_gc, jop_q, jop_i, jop_s, jop_n, jop_j, (jm_110 H), (jm_110 H1), (jm_114 H), (jm_114 H1), (jm_113 H), (jm_113 H1), (jm_116 H), (jm_116 H1), (jm_14 H), (jm_14 H1)]
theorem jm_117 {δ : gb_S} {c : Int} {η : gb_S} (H : DHd c δ η) (x1 : Int) (ρ : gb_S) : fx_117 x1 (Jd η ρ) = jop (Jd η) (jhm δ (fx_117 x1) ρ) := by
  have H1 := H.one
  show _ = jop (Jd η) (fx_117 x1 (Jd δ ρ))
  unfold fx_117
  simp (disch := omega) only [Jd_rd, Jd_up, Jd_fi, Jd_cp, Jd_J, gc_jop, jop_gf, jop_gc, jop_q, jop_i, jop_s, jop_n, jop_j, (jm_24 H), (jm_24 H1)]
theorem jm_118 {δ : gb_S} {c : Int} {η : gb_S} (H : DHd c δ η) (a1 : Nat) (ha1 : 5 ≤ a1) (ρ : gb_S) : fx_118 a1 (Jd η ρ) = jop (Jd η) (jhm δ (fx_118 a1) ρ) := by
  have H1 := H.one
  show _ = jop (Jd η) (fx_118 a1 (Jd δ ρ))
  unfold fx_118
  simp (disch := omega) only [Jd_rd, Jd_up, Jd_fi, Jd_cp, Jd_J, gc_jop, jop_gf, jop_gc, jop_q, jop_i, jop_s, jop_n, jop_j]
theorem jm_93 {δ : gb_S} {c : Int} {η : gb_S} (H : DHd c δ η) (x1 : Int) (x2 : Int) (ρ : gb_S) : fx_93 x1 x2 (Jd η ρ) = jop (Jd η) (jhm δ (fx_93 x1 x2) ρ) := by
  have H1 := H.one
  show _ = jop (Jd η) (fx_93 x1 x2 (Jd δ ρ))
  unfold fx_93
  simp (disch := omega) only [Jd_rd, Jd_up, Jd_fi, Jd_cp, Jd_J, gc_jop, jop_gf, jop_gc, jop_q, jop_i, jop_s, jop_n, jop_j, (jm_110 H), (jm_110 H1), (jm_116 H), (jm_116 H1), (jm_117 H), (jm_117 H1), (jm_118 H), (jm_118 H1), (jm_15 H), (jm_15 H1), (jm_16 H), (jm_16 H1)]
theorem jm_94 {δ : gb_S} {c : Int} {η : gb_S} (H : DHd c δ η) (x1 : Int) (ρ : gb_S) : fx_94 x1 (Jd η ρ) = jop (Jd η) (jhm δ (fx_94 x1) ρ) := by
  have H1 := H.one
  show _ = jop (Jd η) (fx_94 x1 (Jd δ ρ))
  unfold fx_94
  simp (disch := omega) only [Jd_rd, Jd_up, Jd_fi, Jd_cp, Jd_J, gc_jop, jop_gf, jop_gc, jop_q, jop_i, jop_s, jop_n, jop_j, (jm_110 H), (jm_110 H1)]
theorem jm_95 {δ : gb_S} {c : Int} {η : gb_S} (H : DHd c δ η) (x1 : Int) (ρ : gb_S) : fx_95 x1 (Jd η ρ) = jop (Jd η) (jhm δ (fx_95 x1) ρ) := by
  have H1 := H.one
  show _ = jop (Jd η) (fx_95 x1 (Jd δ ρ))
  unfold fx_95
  simp (disch := omega) only [Jd_rd, Jd_up, Jd_fi, Jd_cp, Jd_J, gc_jop, jop_gf, jop_gc, jop_q, jop_i, jop_s, jop_n, jop_j, (jm_110 H), (jm_110 H1), (jm_117 H), (jm_117 H1), (jm_118 H), (jm_118 H1), (jm_1 H), (jm_1 H1), (jm_47 H), (jm_47 H1), (jm_75 H), (jm_75 H1)]
theorem jm_96 {δ : gb_S} {c : Int} {η : gb_S} (H : DHd c δ η) (x1 : Int) (ρ : gb_S) : fx_96 x1 (Jd η ρ) = jop (Jd η) (jhm δ (fx_96 x1) ρ) := by
  have H1 := H.one
  show _ = jop (Jd η) (fx_96 x1 (Jd δ ρ))
  unfold fx_96
  simp (disch := omega) only [Jd_rd, Jd_up, Jd_fi, Jd_cp, Jd_J, gc_jop, jop_gf, jop_gc, jop_q, jop_i, jop_s, jop_n, jop_j, (jm_110 H), (jm_110 H1)]
theorem jm_119 {δ : gb_S} {c : Int} {η : gb_S} (H : DHd c δ η) (x1 : Int) (ρ : gb_S) : fx_119 x1 (Jd η ρ) = jop (Jd η) (jhm δ (fx_119 x1) ρ) := by
  have H1 := H.one
  show _ = jop (Jd η) (fx_119 x1 (Jd δ ρ))
  unfold fx_119
  simp (disch := omega) only [Jd_rd, Jd_up, Jd_fi, Jd_cp, Jd_J, gc_jop, jop_gf, jop_gc, jop_q, jop_i, jop_s, jop_n, jop_j, (jm_1 H), (jm_1 H1)]
theorem jm_99 {δ : gb_S} {c : Int} {η : gb_S} (H : DHd c δ η) (x1 : Int) (x2 : Int) (ρ : gb_S) : fx_99 x1 x2 (Jd η ρ) = jop (Jd η) (jhm δ (fx_99 x1 x2) ρ) := by
  have H1 := H.one
  show _ = jop (Jd η) (fx_99 x1 x2 (Jd δ ρ))
  unfold fx_99
  simp (disch := omega) only [Jd_rd, Jd_up, Jd_fi, Jd_cp, Jd_J, gc_jop, jop_gf, jop_gc, jop_q, jop_i, jop_s, jop_n, jop_j, (jm_110 H), (jm_110 H1), (jm_117 H), (jm_117 H1), (jm_3 H), (jm_3 H1), (jm_71 H), (jm_71 H1)]
theorem jm_120 {δ : gb_S} {c : Int} {η : gb_S} (H : DHd c δ η) (a1 : Nat) (a2 : Nat) (x3 : Int) (ha1 : 5 ≤ a1) (ha2 : 5 ≤ a2) (ρ : gb_S) : fx_120 a1 a2 x3 (Jd η ρ) = jop (Jd η) (jhm δ (fx_120 a1 a2 x3) ρ) := by
  have H1 := H.one
  show _ = jop (Jd η) (fx_120 a1 a2 x3 (Jd δ ρ))
  unfold fx_120
  simp (disch := omega) only [Jd_rd, Jd_up, Jd_fi, Jd_cp, Jd_J, gc_jop, jop_gf, jop_gc, jop_q, jop_i, jop_s, jop_n, jop_j, (jm_67 H), (jm_67 H1), (jm_35 H), (jm_35 H1), (jm_1 H), (jm_1 H1), (jm_76 H), (jm_76 H1)]
theorem jn_101_21 (k : Nat) {δ : gb_S} : ∀ (c : Int) (η : gb_S), DHd c δ η → ∀ (x1 : Int) (a2 : Nat) (x3 : Int) (x4 : Int) (ha2 : 5 ≤ a2) (ρ : gb_S), fx_101_21 k x1 a2 x3 x4 (Jd η ρ) = jop (Jd η) (jhm δ (fx_101_21 k x1 a2 x3 x4) ρ) := by
  induction k with
  | zero => intros; rfl
  | succ k ih =>
    intro c η H x1 a2 x3 x4 ha2 ρ
    have H1 := H.one
    show _ = jop (Jd η) (fx_101_21 (k + 1) x1 a2 x3 x4 (Jd δ ρ))
    rw [fx_101_21, fx_101_21]
    simp (disch := omega) only [Jd_rd, Jd_up, Jd_fi, Jd_cp, Jd_J, gc_jop, jop_gf, jop_gc, jop_q, jop_i, jop_s, jop_n, jop_j, (jm_66 H), (jm_66 H1), (jm_120 H), (jm_120 H1), (ih c η H), (ih 1 δ H1)]
theorem jm_101_21 (k : Nat) {δ : gb_S} {c : Int} {η : gb_S} (H : DHd c δ η) (x1 : Int) (a2 : Nat) (x3 : Int) (x4 : Int) (ha2 : 5 ≤ a2) (ρ : gb_S) : fx_101_21 k x1 a2 x3 x4 (Jd η ρ) = jop (Jd η) (jhm δ (fx_101_21 k x1 a2 x3 x4) ρ) := jn_101_21 k c η H x1 a2 x3 x4 ha2 ρ
theorem jm_102 {δ : gb_S} {c : Int} {η : gb_S} (H : DHd c δ η) (x1 : Int) (ρ : gb_S) : fx_102 x1 (Jd η ρ) = jop (Jd η) (jhm δ (fx_102 x1) ρ) := by
  have H1 := H.one
  show _ = jop (Jd η) (fx_102 x1 (Jd δ ρ))
  unfold fx_102
  simp (disch := omega) only [Jd_rd, Jd_up, Jd_fi, Jd_cp, Jd_J, gc_jop, jop_gf, jop_gc, jop_q, jop_i, jop_s, jop_n, jop_j, (jm_110 H), (jm_110 H1)]
theorem jm_115 {δ : gb_S} {c : Int} {η : gb_S} (H : DHd c δ η) (x1 : Int) (x2 : Int) (ρ : gb_S) : fx_115 x1 x2 (Jd η ρ) = jop (Jd η) (jhm δ (fx_115 x1 x2) ρ) := by
  have H1 := H.one
  show _ = jop (Jd η) (fx_115 x1 x2 (Jd δ ρ))
  unfold fx_115
  simp (disch := omega) only [Jd_rd, Jd_up, Jd_fi, Jd_cp, Jd_J, gc_jop, jop_gf, jop_gc, jop_q, jop_i, jop_s, jop_n, jop_j]
theorem jm_103 {δ : gb_S} {c : Int} {η : gb_S} (H : DHd c δ η) (x1 : Int) (x2 : Int) (x3 : Int) (ρ : gb_S) : fx_103 x1 x2 x3 (Jd η ρ) = jop (Jd η) (jhm δ (fx_103 x1 x2 x3) ρ) := by
  have H1 := H.one
  show _ = jop (Jd η) (fx_103 x1 x2 x3 (Jd δ ρ))
  unfold fx_103
  simp (disch := omega) only [Jd_rd, Jd_up, Jd_fi, Jd_cp, Jd_J, gc_jop, jop_gf, jop_gc, jop_q, jop_i, jop_s, jop_n, jop_j, (jm_110 H), (jm_110 H1), (jm_115 H), (jm_115 H1), (jm_116 H), (jm_116 H1), (jm_41 H), (jm_41 H1), (jm_45 H), (jm_45 H1)]
theorem jm_104 {δ : gb_S} {c : Int} {η : gb_S} (H : DHd c δ η) (x1 : Int) (x2 : Int) (x3 : Int) (x4 : Int) (ρ : gb_S) : fx_104 x1 x2 x3 x4 (Jd η ρ) = jop (Jd η) (jhm δ (fx_104 x1 x2 x3 x4) ρ) := by
  have H1 := H.one
  show _ = jop (Jd η) (fx_104 x1 x2 x3 x4 (Jd δ ρ))
  unfold fx_104
  simp (disch := omega) only [Jd_rd, Jd_up, Jd_fi, Jd_cp, Jd_J, gc_jop, jop_gf, jop_gc, jop_q, jop_i, jop_s, jop_n, jop_j, (jm_110 H), (jm_110 H1), (jm_114 H), (jm_114 H1), (jm_115 H), (jm_115 H1), (jm_116 H), (jm_116 H1), (jm_42 H), (jm_42 H1), (jm_46 H), (jm_46 H1)]
theorem jm_112 {δ : gb_S} {c : Int} {η : gb_S} (H : DHd c δ η) (x1 : Int) (ρ : gb_S) : fx_112 x1 (Jd η ρ) = jop (Jd η) (jhm δ (fx_112 x1) ρ) := by
  have H1 := H.one
  show _ = jop (Jd η) (fx_112 x1 (Jd δ ρ))
  unfold fx_112
  simp (disch := omega) only [Jd_rd, Jd_up, Jd_fi, Jd_cp, Jd_J, gc_jop, jop_gf, jop_gc, jop_q, jop_i, jop_s, jop_n, jop_j]
theorem jm_105 {δ : gb_S} {c : Int} {η : gb_S} (H : DHd c δ η) (x1 : Int) (ρ : gb_S) : fx_105 x1 (Jd η ρ) = jop (Jd η) (jhm δ (fx_105 x1) ρ) := by
  have H1 := H.one
  show _ = jop (Jd η) (fx_105 x1 (Jd δ ρ))
  unfold fx_105
  simp (disch := omega) only [Jd_rd, Jd_up, Jd_fi, Jd_cp, Jd_J, gc_jop, jop_gf, jop_gc, jop_q, jop_i, jop_s, jop_n, jop_j, (jm_112 H), (jm_112 H1), (jm_40 H), (jm_40 H1)]
theorem jn_106_7 (k : Nat) {δ : gb_S} : ∀ (c : Int) (η : gb_S), DHd c δ η → ∀ (x1 : Int) (x2 : Int) (ρ : gb_S), fx_106_7 k x1 x2 (Jd η ρ) = jop (Jd η) (jhm δ (fx_106_7 k x1 x2) ρ) := by
  induction k with
  | zero => intros; rfl
  | succ k ih =>
    intro c η H x1 x2 ρ
    have H1 := H.one
    show _ = jop (Jd η) (fx_106_7 (k + 1) x1 x2 (Jd δ ρ))
    rw [fx_106_7, fx_106_7]
    simp (disch := omega) only [Jd_rd, Jd_up, Jd_fi, Jd_cp, Jd_J, gc_jop, jop_gf, jop_gc, jop_q, jop_i, jop_s, jop_n, jop_j, (ih c η H), (ih 1 δ H1), (jm_3 H), (jm_3 H1), (jm_50 H), (jm_50 H1)]
theorem jm_106_7 (k : Nat) {δ : gb_S} {c : Int} {η : gb_S} (H : DHd c δ η) (x1 : Int) (x2 : Int) (ρ : gb_S) : fx_106_7 k x1 x2 (Jd η ρ) = jop (Jd η) (jhm δ (fx_106_7 k x1 x2) ρ) := jn_106_7 k c η H x1 x2 ρ
theorem jm_106 {δ : gb_S} {c : Int} {η : gb_S} (H : DHd c δ η) (x1 : Int) (ρ : gb_S) : fx_106 x1 (Jd η ρ) = jop (Jd η) (jhm δ (fx_106 x1) ρ) := by
  have H1 := H.one
  show _ = jop (Jd η) (fx_106 x1 (Jd δ ρ))
  unfold fx_106
  simp (disch := omega) only [Jd_rd, Jd_up, Jd_fi, Jd_cp, Jd_J, gc_jop, jop_gf, jop_gc, jop_q, jop_i, jop_s, jop_n, jop_j, (jm_112 H), (jm_112 H1), (jm_106_7 _ H), (jm_106_7 _ H1)]
theorem jm_107 {δ : gb_S} {c : Int} {η : gb_S} (H : DHd c δ η) (x1 : Int) (ρ : gb_S) : fx_107 x1 (Jd η ρ) = jop (Jd η) (jhm δ (fx_107 x1) ρ) := by
  have H1 := H.one
  show _ = jop (Jd η) (fx_107 x1 (Jd δ ρ))
  unfold fx_107
  simp (disch := omega) only [Jd_rd, Jd_up, Jd_fi, Jd_cp, Jd_J, gc_jop, jop_gf, jop_gc, jop_q, jop_i, jop_s, jop_n, jop_j, (jm_110 H), (jm_110 H1), (jm_42 H), (jm_42 H1)]
theorem jn_108_4 (k : Nat) {δ : gb_S} : ∀ (c : Int) (η : gb_S), DHd c δ η → ∀ (x1 : Int) (x2 : Int) (ρ : gb_S), fx_108_4 k x1 x2 (Jd η ρ) = jop (Jd η) (jhm δ (fx_108_4 k x1 x2) ρ) := by
  induction k with
  | zero => intros; rfl
  | succ k ih =>
    intro c η H x1 x2 ρ
    have H1 := H.one
    show _ = jop (Jd η) (fx_108_4 (k + 1) x1 x2 (Jd δ ρ))
    rw [fx_108_4, fx_108_4]
    simp (disch := omega) only [Jd_rd, Jd_up, Jd_fi, Jd_cp, Jd_J, gc_jop, jop_gf, jop_gc, jop_q, jop_i, jop_s, jop_n, jop_j, (jm_40 H), (jm_40 H1), (ih c η H), (ih 1 δ H1), (jm_43 H), (jm_43 H1)]
theorem jm_108_4 (k : Nat) {δ : gb_S} {c : Int} {η : gb_S} (H : DHd c δ η) (x1 : Int) (x2 : Int) (ρ : gb_S) : fx_108_4 k x1 x2 (Jd η ρ) = jop (Jd η) (jhm δ (fx_108_4 k x1 x2) ρ) := jn_108_4 k c η H x1 x2 ρ
theorem jm_108 {δ : gb_S} {c : Int} {η : gb_S} (H : DHd c δ η) (ρ : gb_S) : fx_108 (Jd η ρ) = jop (Jd η) (jhm δ (fx_108) ρ) := by
  have H1 := H.one
  show _ = jop (Jd η) (fx_108 (Jd δ ρ))
  unfold fx_108
  simp (disch := omega) only [Jd_rd, Jd_up, Jd_fi, Jd_cp, Jd_J, gc_jop, jop_gf, jop_gc, jop_q, jop_i, jop_s, jop_n, jop_j, (jm_108_4 _ H), (jm_108_4 _ H1)]
theorem jm_109 {δ : gb_S} {c : Int} {η : gb_S} (H : DHd c δ η) (x1 : Int) (ρ : gb_S) : fx_109 x1 (Jd η ρ) = jop (Jd η) (jhm δ (fx_109 x1) ρ) := by
  have H1 := H.one
  show _ = jop (Jd η) (fx_109 x1 (Jd δ ρ))
  unfold fx_109
  simp (disch := omega) only [Jd_rd, Jd_up, Jd_fi, Jd_cp, Jd_J, gc_jop, jop_gf, jop_gc, jop_q, jop_i, jop_s, jop_n, jop_j, (jm_112 H), (jm_112 H1), (jm_40 H), (jm_40 H1), (jm_43 H), (jm_43 H1), (jm_44 H), (jm_44 H1)]
end JJ3
