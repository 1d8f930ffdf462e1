section JO
theorem jo_125 {τ : gb_S} (ρ : gb_S) : fx_125 (Oc τ ρ) = jop (Oc τ) (fx_125 ρ) := by
  unfold fx_125
  simp (disch := omega) only [Oc_rd, Oc_up, Oc_fi, Oc_cp, gc_jop, jop_gc, jop_q, jop_i, jop_s, jop_n]
theorem jo_126 {τ : gb_S} (x0 : Int) (x1 : Int) (x2 : Int) (ρ : gb_S) : fx_126 x0 x1 x2 (Oc τ ρ) = jop (Oc τ) (fx_126 x0 x1 x2 ρ) := by
  unfold fx_126
  simp (disch := omega) only [Oc_rd, Oc_up, Oc_fi, Oc_cp, gc_jop, jop_gc, jop_q, jop_i, jop_s, jop_n]
theorem jo_127 {τ : gb_S} (x1 : Int) (ρ : gb_S) : fx_127 x1 (Oc τ ρ) = jop (Oc τ) (fx_127 x1 ρ) := by
  unfold fx_127
  simp (disch := omega) only [Oc_rd, Oc_up, Oc_fi, Oc_cp, gc_jop, jop_gc, jop_q, jop_i, jop_s, jop_n]
theorem jo_128_18 {τ : gb_S} (y0 : Int) (ρ : gb_S) : fx_128_18 y0 (Oc τ ρ) = jop (Oc τ) (fx_128_18 y0 ρ) := by
  unfold fx_128_18
  simp (disch := omega) only [Oc_rd, Oc_up, Oc_fi, Oc_cp, gc_jop, jop_gc, jop_q, jop_i, jop_s, jop_n]
theorem jo_128 {τ : gb_S} (x1 : Int) (x2 : Int) (ρ : gb_S) : fx_128 x1 x2 (Oc τ ρ) = jop (Oc τ) (fx_128 x1 x2 ρ) := by
  unfold fx_128
  simp (disch := omega) only [Oc_rd, Oc_up, Oc_fi, Oc_cp, gc_jop, jop_gc, jop_q, jop_i, jop_s, jop_n, jo_128_18]
theorem jo_129_26 {τ : gb_S} (y0 : Int) (ρ : gb_S) : fx_129_26 y0 (Oc τ ρ) = jop (Oc τ) (fx_129_26 y0 ρ) := by
  unfold fx_129_26
  simp (disch := omega) only [Oc_rd, Oc_up, Oc_fi, Oc_cp, gc_jop, jop_gc, jop_q, jop_i, jop_s, jop_n]
theorem jo_129 {τ : gb_S} (x1 : Int) (x2 : Int) (x3 : Int) (ρ : gb_S) : fx_129 x1 x2 x3 (Oc τ ρ) = jop (Oc τ) (fx_129 x1 x2 x3 ρ) := by
  unfold fx_129
  simp (disch := omega) only [Oc_rd, Oc_up, Oc_fi, Oc_cp, gc_jop, jop_gc, jop_q, jop_i, jop_s, jop_n, jo_129_26]
theorem jo_130 {τ : gb_S} (x1 : Int) (ρ : gb_S) : fx_130 x1 (Oc τ ρ) = jop (Oc τ) (fx_130 x1 ρ) := by
  unfold fx_130
  simp (disch := omega) only [Oc_rd, Oc_up, Oc_fi, Oc_cp, gc_jop, jop_gc, jop_q, jop_i, jop_s, jop_n]
theorem jo_131 {τ : gb_S} (x1 : Int) (ρ : gb_S) : fx_131 x1 (Oc τ ρ) = jop (Oc τ) (fx_131 x1 ρ) := by
  unfold fx_131
  simp (disch := omega) only [Oc_rd, Oc_up, Oc_fi, Oc_cp, gc_jop, jop_gc, jop_q, jop_i, jop_s, jop_n, jo_126]
theorem jo_132 {τ : gb_S} (x1 : Int) (ρ : gb_S) : fx_132 x1 (Oc τ ρ) = jop (Oc τ) (fx_132 x1 ρ) := by
  unfold fx_132
  simp (disch := omega) only [Oc_rd, Oc_up, Oc_fi, Oc_cp, gc_jop, jop_gc, jop_q, jop_i, jop_s, jop_n, jo_126]
theorem jo_133 {τ : gb_S} (x1 : Int) (ρ : gb_S) : fx_133 x1 (Oc τ ρ) = jop (Oc τ) (fx_133 x1 ρ) := by
  unfold fx_133
  simp (disch := omega) only [Oc_rd, Oc_up, Oc_fi, Oc_cp, gc_jop, jop_gc, jop_q, jop_i, jop_s, jop_n, jo_126]
theorem jo_134 {τ : gb_S} (x0 : Int) (ρ : gb_S) : fx_134 x0 (Oc τ ρ) = jop (Oc τ) (fx_134 x0 ρ) := by
  unfold fx_134
  simp (disch := omega) only [Oc_rd, Oc_up, Oc_fi, Oc_cp, gc_jop, jop_gc, jop_q, jop_i, jop_s, jop_n, jo_126]
theorem jo_135_31 {τ : gb_S} (x1 : Int) (y0 : Int) (y1 : Int) (ρ : gb_S) : fx_135_31 x1 y0 y1 (Oc τ ρ) = jop (Oc τ) (fx_135_31 x1 y0 y1 ρ) := by
  unfold fx_135_31
  simp (disch := omega) only [Oc_rd, Oc_up, Oc_fi, Oc_cp, gc_jop, jop_gc, jop_q, jop_i, jop_s, jop_n, jo_128]
theorem jo_135 {τ : gb_S} (x1 : Int) (ρ : gb_S) : fx_135 x1 (Oc τ ρ) = jop (Oc τ) (fx_135 x1 ρ) := by
  unfold fx_135
  simp (disch := omega) only [Oc_rd, Oc_up, Oc_fi, Oc_cp, gc_jop, jop_gc, jop_q, jop_i, jop_s, jop_n, jo_126, jo_135_31]
theorem jo_136 {τ : gb_S} (ρ : gb_S) : fx_136 (Oc τ ρ) = jop (Oc τ) (fx_136 ρ) := by
  unfold fx_136
  simp (disch := omega) only [Oc_rd, Oc_up, Oc_fi, Oc_cp, gc_jop, jop_gc, jop_q, jop_i, jop_s, jop_n, jo_130]
theorem jo_137_98 {τ : gb_S} (x2 : Int) (ρ : gb_S) : fx_137_98 x2 (Oc τ ρ) = jop (Oc τ) (fx_137_98 x2 ρ) := by
  unfold fx_137_98
  simp (disch := omega) only [Oc_rd, Oc_up, Oc_fi, Oc_cp, gc_jop, jop_gc, jop_q, jop_i, jop_s, jop_n]
theorem jo_137_57 (k : Nat) {τ : gb_S} : ∀ (x1 : Int) (x2 : Int) (ρ : gb_S), fx_137_57 k x1 x2 (Oc τ ρ) = jop (Oc τ) (fx_137_57 k x1 x2 ρ) := by
  induction k with
  | zero => intros; rfl
  | succ k ih =>
    intro x1 x2 ρ
    rw [fx_137_57, fx_137_57]
    simp (disch := omega) only [Oc_rd, Oc_up, Oc_fi, Oc_cp, gc_jop, jop_gc, jop_q, jop_i, jop_s, jop_n, ih, jo_137_98]
theorem jo_137_24 {τ : gb_S} (x1 : Int) (y0 : Int) (y1 : Int) (ρ : gb_S) : fx_137_24 x1 y0 y1 (Oc τ ρ) = jop (Oc τ) (fx_137_24 x1 y0 y1 ρ) := by
  unfold fx_137_24
  simp (disch := omega) only [Oc_rd, Oc_up, Oc_fi, Oc_cp, gc_jop, jop_gc, jop_q, jop_i, jop_s, jop_n, jo_128, (jo_137_57 _)]
theorem jo_137 {τ : gb_S} (x1 : Int) (ρ : gb_S) : fx_137 x1 (Oc τ ρ) = jop (Oc τ) (fx_137 x1 ρ) := by
  unfold fx_137
  simp (disch := omega) only [Oc_rd, Oc_up, Oc_fi, Oc_cp, gc_jop, jop_gc, jop_q, jop_i, jop_s, jop_n, jo_126, jo_137_24]
theorem jo_138_171 {τ : gb_S} {k50 : Int → Int → Int → gb_S → Option gb_P} (hk50 : ∀ (z0 : Int) (z1 : Int) (z2 : Int) (ρ : gb_S), k50 z0 z1 z2 (Oc τ ρ) = jop (Oc τ) (k50 z0 z1 z2 ρ)) (x1 : Int) (x4 : Int) (x5 : Int) (y0 : Int) (y1 : Int) (ρ : gb_S) : fx_138_171 k50 x1 x4 x5 y0 y1 (Oc τ ρ) = jop (Oc τ) (fx_138_171 k50 x1 x4 x5 y0 y1 ρ) := by
  unfold fx_138_171
  simp (disch := omega) only [Oc_rd, Oc_up, Oc_fi, Oc_cp, gc_jop, jop_gc, jop_q, jop_i, jop_s, jop_n, hk50]
theorem jo_138_146 {τ : gb_S} {k50 : Int → Int → Int → gb_S → Option gb_P} (hk50 : ∀ (z0 : Int) (z1 : Int) (z2 : Int) (ρ : gb_S), k50 z0 z1 z2 (Oc τ ρ) = jop (Oc τ) (k50 z0 z1 z2 ρ)) (x1 : Int) (x3 : Int) (x4 : Int) (x5 : Int) (ρ : gb_S) : fx_138_146 k50 x1 x3 x4 x5 (Oc τ ρ) = jop (Oc τ) (fx_138_146 k50 x1 x3 x4 x5 ρ) := by
  unfold fx_138_146
  simp (disch := omega) only [Oc_rd, Oc_up, Oc_fi, Oc_cp, gc_jop, jop_gc, jop_q, jop_i, jop_s, jop_n, (jo_138_171 hk50), hk50]
theorem jo_138_65 (k : Nat) {τ : gb_S} {k50 : Int → Int → Int → gb_S → Option gb_P} (hk50 : ∀ (z0 : Int) (z1 : Int) (z2 : Int) (ρ : gb_S), k50 z0 z1 z2 (Oc τ ρ) = jop (Oc τ) (k50 z0 z1 z2 ρ)) : ∀ (x1 : Int) (x3 : Int) (x4 : Int) (x5 : Int) (x6 : Int) (ρ : gb_S), fx_138_65 k k50 x1 x3 x4 x5 x6 (Oc τ ρ) = jop (Oc τ) (fx_138_65 k k50 x1 x3 x4 x5 x6 ρ) := by
  induction k with
  | zero => intros; rfl
  | succ k ih =>
    intro x1 x3 x4 x5 x6 ρ
    rw [fx_138_65, fx_138_65]
    simp (disch := omega) only [Oc_rd, Oc_up, Oc_fi, Oc_cp, gc_jop, jop_gc, jop_q, jop_i, jop_s, jop_n, ih, (jo_138_146 hk50), hk50]
theorem jo_138_50 (k : Nat) {τ : gb_S} : ∀ (x1 : Int) (x3 : Int) (x4 : Int) (ρ : gb_S), fx_138_50 k x1 x3 x4 (Oc τ ρ) = jop (Oc τ) (fx_138_50 k x1 x3 x4 ρ) := by
  induction k with
  | zero => intros; rfl
  | succ k ih =>
    intro x1 x3 x4 ρ
    rw [fx_138_50, fx_138_50]
    simp (disch := omega) only [Oc_rd, Oc_up, Oc_fi, Oc_cp, gc_jop, jop_gc, jop_q, jop_i, jop_s, jop_n, (jo_138_65 _ ih), ih]
theorem jo_138_27 {τ : gb_S} (x1 : Int) (y0 : Int) (y1 : Int) (ρ : gb_S) : fx_138_27 x1 y0 y1 (Oc τ ρ) = jop (Oc τ) (fx_138_27 x1 y0 y1 ρ) := by
  unfold fx_138_27
  simp (disch := omega) only [Oc_rd, Oc_up, Oc_fi, Oc_cp, gc_jop, jop_gc, jop_q, jop_i, jop_s, jop_n, jo_128, (jo_138_50 _)]
theorem jo_138 {τ : gb_S} (x1 : Int) (ρ : gb_S) : fx_138 x1 (Oc τ ρ) = jop (Oc τ) (fx_138 x1 ρ) := by
  unfold fx_138
  simp (disch := omega) only [Oc_rd, Oc_up, Oc_fi, Oc_cp, gc_jop, jop_gc, jop_q, jop_i, jop_s, jop_n, jo_131, jo_138_27]
theorem jo_139 {τ : gb_S} (ρ : gb_S) : fx_139 (Oc τ ρ) = jop (Oc τ) (fx_139 ρ) := by
  unfold fx_139
  simp (disch := omega) only [Oc_rd, Oc_up, Oc_fi, Oc_cp, gc_jop, jop_gc, jop_q, jop_i, jop_s, jop_n, jo_130]
theorem jo_140 {τ : gb_S} (x1 : Int) (ρ : gb_S) : fx_140 x1 (Oc τ ρ) = jop (Oc τ) (fx_140 x1 ρ) := by
  unfold fx_140
  simp (disch := omega) only [Oc_rd, Oc_up, Oc_fi, Oc_cp, gc_jop, jop_gc, jop_q, jop_i, jop_s, jop_n, jo_131, jo_127]
theorem jo_141_22 (k : Nat) {τ : gb_S} : ∀ (x1 : Int) (x2 : Int) (x3 : Int) (ρ : gb_S), fx_141_22 k x1 x2 x3 (Oc τ ρ) = jop (Oc τ) (fx_141_22 k x1 x2 x3 ρ) := by
  induction k with
  | zero => intros; rfl
  | succ k ih =>
    intro x1 x2 x3 ρ
    rw [fx_141_22, fx_141_22]
    simp (disch := omega) only [Oc_rd, Oc_up, Oc_fi, Oc_cp, gc_jop, jop_gc, jop_q, jop_i, jop_s, jop_n, ih]
theorem jo_141 {τ : gb_S} (x1 : Int) (ρ : gb_S) : fx_141 x1 (Oc τ ρ) = jop (Oc τ) (fx_141 x1 ρ) := by
  unfold fx_141
  simp (disch := omega) only [Oc_rd, Oc_up, Oc_fi, Oc_cp, gc_jop, jop_gc, jop_q, jop_i, jop_s, jop_n, (jo_141_22 _)]
theorem jo_142_47 {τ : gb_S} {k5 : Int → Int → Int → Int → gb_S → Option gb_P} (hk5 : ∀ (z0 : Int) (z1 : Int) (z2 : Int) (z3 : Int) (ρ : gb_S), k5 z0 z1 z2 z3 (Oc τ ρ) = jop (Oc τ) (k5 z0 z1 z2 z3 ρ)) (x1 : Int) (x2 : Int) (x3 : Int) (x4 : Int) (y0 : Int) (ρ : gb_S) : fx_142_47 k5 x1 x2 x3 x4 y0 (Oc τ ρ) = jop (Oc τ) (fx_142_47 k5 x1 x2 x3 x4 y0 ρ) := by
  unfold fx_142_47
  simp (disch := omega) only [Oc_rd, Oc_up, Oc_fi, Oc_cp, gc_jop, jop_gc, jop_q, jop_i, jop_s, jop_n, hk5]
theorem jo_142_5 (k : Nat) {τ : gb_S} : ∀ (x1 : Int) (x2 : Int) (x3 : Int) (x4 : Int) (ρ : gb_S), fx_142_5 k x1 x2 x3 x4 (Oc τ ρ) = jop (Oc τ) (fx_142_5 k x1 x2 x3 x4 ρ) := by
  induction k with
  | zero => intros; rfl
  | succ k ih =>
    intro x1 x2 x3 x4 ρ
    rw [fx_142_5, fx_142_5]
    simp (disch := omega) only [Oc_rd, Oc_up, Oc_fi, Oc_cp, gc_jop, jop_gc, jop_q, jop_i, jop_s, jop_n, (jo_142_47 ih), ih]
theorem jo_142 {τ : gb_S} (x1 : Int) (x2 : Int) (ρ : gb_S) : fx_142 x1 x2 (Oc τ ρ) = jop (Oc τ) (fx_142 x1 x2 ρ) := by
  unfold fx_142
  simp (disch := omega) only [Oc_rd, Oc_up, Oc_fi, Oc_cp, gc_jop, jop_gc, jop_q, jop_i, jop_s, jop_n, (jo_142_5 _)]
theorem jo_143_132 {τ : gb_S} {k42 : Int → gb_S → Option gb_P} (hk42 : ∀ (z0 : Int) (ρ : gb_S), k42 z0 (Oc τ ρ) = jop (Oc τ) (k42 z0 ρ)) {k66 : Int → Int → gb_S → Option gb_P} (hk66 : ∀ (z0 : Int) (z1 : Int) (ρ : gb_S), k66 z0 z1 (Oc τ ρ) = jop (Oc τ) (k66 z0 z1 ρ)) (x1 : Int) (x2 : Int) (x3 : Int) (ρ : gb_S) : fx_143_132 k42 k66 x1 x2 x3 (Oc τ ρ) = jop (Oc τ) (fx_143_132 k42 k66 x1 x2 x3 ρ) := by
  unfold fx_143_132
  simp (disch := omega) only [Oc_rd, Oc_up, Oc_fi, Oc_cp, gc_jop, jop_gc, jop_q, jop_i, jop_s, jop_n, jo_142, hk66]
theorem jo_143_110 {τ : gb_S} {k42 : Int → gb_S → Option gb_P} (hk42 : ∀ (z0 : Int) (ρ : gb_S), k42 z0 (Oc τ ρ) = jop (Oc τ) (k42 z0 ρ)) {k66 : Int → Int → gb_S → Option gb_P} (hk66 : ∀ (z0 : Int) (z1 : Int) (ρ : gb_S), k66 z0 z1 (Oc τ ρ) = jop (Oc τ) (k66 z0 z1 ρ)) (x1 : Int) (x2 : Int) (ρ : gb_S) : fx_143_110 k42 k66 x1 x2 (Oc τ ρ) = jop (Oc τ) (fx_143_110 k42 k66 x1 x2 ρ) := by
  unfold fx_143_110
  simp (disch := omega) only [Oc_rd, Oc_up, Oc_fi, Oc_cp, gc_jop, jop_gc, jop_q, jop_i, jop_s, jop_n, hk66]
theorem jo_143_66 (k : Nat) {τ : gb_S} {k42 : Int → gb_S → Option gb_P} (hk42 : ∀ (z0 : Int) (ρ : gb_S), k42 z0 (Oc τ ρ) = jop (Oc τ) (k42 z0 ρ)) : ∀ (x1 : Int) (x2 : Int) (ρ : gb_S), fx_143_66 k k42 x1 x2 (Oc τ ρ) = jop (Oc τ) (fx_143_66 k k42 x1 x2 ρ) := by
  induction k with
  | zero => intros; rfl
  | succ k ih =>
    intro x1 x2 ρ
    rw [fx_143_66, fx_143_66]
    simp (disch := omega) only [Oc_rd, Oc_up, Oc_fi, Oc_cp, gc_jop, jop_gc, jop_q, jop_i, jop_s, jop_n, jo_142, (jo_143_110 hk42), ih, (jo_143_132 hk42), hk42]
theorem jo_143_42 (k : Nat) {τ : gb_S} : ∀ (x1 : Int) (ρ : gb_S), fx_143_42 k x1 (Oc τ ρ) = jop (Oc τ) (fx_143_42 k x1 ρ) := by
  induction k with
  | zero => intros; rfl
  | succ k ih =>
    intro x1 ρ
    rw [fx_143_42, fx_143_42]
    simp (disch := omega) only [Oc_rd, Oc_up, Oc_fi, Oc_cp, gc_jop, jop_gc, jop_q, jop_i, jop_s, jop_n, (jo_143_66 _ ih), ih]
theorem jo_143_15 (k : Nat) {τ : gb_S} : ∀ (x1 : Int) (ρ : gb_S), fx_143_15 k x1 (Oc τ ρ) = jop (Oc τ) (fx_143_15 k x1 ρ) := by
  induction k with
  | zero => intros; rfl
  | succ k ih =>
    intro x1 ρ
    rw [fx_143_15, fx_143_15]
    simp (disch := omega) only [Oc_rd, Oc_up, Oc_fi, Oc_cp, gc_jop, jop_gc, jop_q, jop_i, jop_s, jop_n, jo_141, ih, (jo_143_42 _)]
theorem jo_143 {τ : gb_S} (ρ : gb_S) : fx_143 (Oc τ ρ) = jop (Oc τ) (fx_143 ρ) := by
  unfold fx_143
  simp (disch := omega) only [Oc_rd, Oc_up, Oc_fi, Oc_cp, gc_jop, jop_gc, jop_q, jop_i, jop_s, jop_n, (jo_143_15 _)]
theorem jo_144 {τ : gb_S} (x1 : Int) (x2 : Int) (ρ : gb_S) : fx_144 x1 x2 (Oc τ ρ) = jop (Oc τ) (fx_144 x1 x2 ρ) := by
  unfold fx_144
  simp (disch := omega) only [Oc_rd, Oc_up, Oc_fi, Oc_cp, gc_jop, jop_gc, jop_q, jop_i, jop_s, jop_n]
theorem jo_158 {τ : gb_S} (x1 : Int) (x2 : Int) (ρ : gb_S) : fx_158 x1 x2 (Oc τ ρ) = jop (Oc τ) (fx_158 x1 x2 ρ) := by
  unfold fx_158
  simp (disch := omega) only [Oc_rd, Oc_up, Oc_fi, Oc_cp, gc_jop, jop_gc, jop_q, jop_i, jop_s, jop_n]
theorem jo_163_6 (k : Nat) {τ : gb_S} : ∀ (x4 : Int) (x6 : Int) (ρ : gb_S), fx_163_6 k x4 x6 (Oc τ ρ) = jop (Oc τ) (fx_163_6 k x4 x6 ρ) := by
  induction k with
  | zero => intros; rfl
  | succ k ih =>
    intro x4 x6 ρ
    rw [fx_163_6, fx_163_6]
    simp (disch := omega) only [Oc_rd, Oc_up, Oc_fi, Oc_cp, gc_jop, jop_gc, jop_q, jop_i, jop_s, jop_n, ih]
theorem jo_163 {τ : gb_S} (x0 : Int) (x2 : Int) (ρ : gb_S) : fx_163 x0 x2 (Oc τ ρ) = jop (Oc τ) (fx_163 x0 x2 ρ) := by
  unfold fx_163
  simp (disch := omega) only [Oc_rd, Oc_up, Oc_fi, Oc_cp, gc_jop, jop_gc, jop_q, jop_i, jop_s, jop_n, (jo_163_6 _)]
theorem jo_164 {τ : gb_S} (x1 : Int) (x2 : Int) (x4 : Int) (ρ : gb_S) : fx_164 x1 x2 x4 (Oc τ ρ) = jop (Oc τ) (fx_164 x1 x2 x4 ρ) := by
  unfold fx_164
  simp (disch := omega) only [Oc_rd, Oc_up, Oc_fi, Oc_cp, gc_jop, jop_gc, jop_q, jop_i, jop_s, jop_n, jo_163]
theorem jo_159 {τ : gb_S} (x1 : Int) (x2 : Int) (ρ : gb_S) : fx_159 x1 x2 (Oc τ ρ) = jop (Oc τ) (fx_159 x1 x2 ρ) := by
  unfold fx_159
  simp (disch := omega) only [Oc_rd, Oc_up, Oc_fi, Oc_cp, gc_jop, jop_gc, jop_q, jop_i, jop_s, jop_n]
theorem jo_160_70 (k : Nat) {τ : gb_S} {k56 : Int → gb_S → Option gb_P} (hk56 : ∀ (z0 : Int) (ρ : gb_S), k56 z0 (Oc τ ρ) = jop (Oc τ) (k56 z0 ρ)) : ∀ (x2 : Int) (x3 : Int) (x4 : Int) (ρ : gb_S), fx_160_70 k k56 x2 x3 x4 (Oc τ ρ) = jop (Oc τ) (fx_160_70 k k56 x2 x3 x4 ρ) := by
  induction k with
  | zero => intros; rfl
  | succ k ih =>
    intro x2 x3 x4 ρ
    rw [fx_160_70, fx_160_70]
    simp (disch := omega) only [Oc_rd, Oc_up, Oc_fi, Oc_cp, gc_jop, jop_gc, jop_q, jop_i, jop_s, jop_n, jo_144, ih, hk56]
theorem jo_160_56 (k : Nat) {τ : gb_S} : ∀ (x2 : Int) (ρ : gb_S), fx_160_56 k x2 (Oc τ ρ) = jop (Oc τ) (fx_160_56 k x2 ρ) := by
  induction k with
  | zero => intros; rfl
  | succ k ih =>
    intro x2 ρ
    rw [fx_160_56, fx_160_56]
    simp (disch := omega) only [Oc_rd, Oc_up, Oc_fi, Oc_cp, gc_jop, jop_gc, jop_q, jop_i, jop_s, jop_n, (jo_160_70 _ ih), ih]
theorem jo_160_6 (k : Nat) {τ : gb_S} : ∀ (x1 : Int) (x2 : Int) (ρ : gb_S), fx_160_6 k x1 x2 (Oc τ ρ) = jop (Oc τ) (fx_160_6 k x1 x2 ρ) := by
  induction k with
  | zero => intros; rfl
  | succ k ih =>
    intro x1 x2 ρ
    rw [fx_160_6, fx_160_6]
    simp (disch := omega) only [Oc_rd, Oc_up, Oc_fi, Oc_cp, gc_jop, jop_gc, jop_q, jop_i, jop_s, jop_n, jo_159, ih, jo_158, (jo_160_56 _)]
theorem jo_160 {τ : gb_S} (x1 : Int) (ρ : gb_S) : fx_160 x1 (Oc τ ρ) = jop (Oc τ) (fx_160 x1 ρ) := by
  unfold fx_160
  simp (disch := omega) only [Oc_rd, Oc_up, Oc_fi, Oc_cp, gc_jop, jop_gc, jop_q, jop_i, jop_s, jop_n, jo_143, (jo_160_6 _)]
theorem jo_161_4 (k : Nat) {τ : gb_S} : ∀ (x1 : Int) (x2 : Int) (ρ : gb_S), fx_161_4 k x1 x2 (Oc τ ρ) = jop (Oc τ) (fx_161_4 k x1 x2 ρ) := by
  induction k with
  | zero => intros; rfl
  | succ k ih =>
    intro x1 x2 ρ
    rw [fx_161_4, fx_161_4]
    simp (disch := omega) only [Oc_rd, Oc_up, Oc_fi, Oc_cp, gc_jop, jop_gc, jop_q, jop_i, jop_s, jop_n, ih]
theorem jo_161 {τ : gb_S} (ρ : gb_S) : fx_161 (Oc τ ρ) = jop (Oc τ) (fx_161 ρ) := by
  unfold fx_161
  simp (disch := omega) only [Oc_rd, Oc_up, Oc_fi, Oc_cp, gc_jop, jop_gc, jop_q, jop_i, jop_s, jop_n, (jo_161_4 _)]
theorem jo_162_111 {τ : gb_S} {k62 : Int → Int → gb_S → Option gb_P} (hk62 : ∀ (z0 : Int) (z1 : Int) (ρ : gb_S), k62 z0 z1 (Oc τ ρ) = jop (Oc τ) (k62 z0 z1 ρ)) (x1 : Int) (x2 : Int) (x3 : Int) (ρ : gb_S) : fx_162_111 k62 x1 x2 x3 (Oc τ ρ) = jop (Oc τ) (fx_162_111 k62 x1 x2 x3 ρ) := by
  unfold fx_162_111
  simp (disch := omega) only [Oc_rd, Oc_up, Oc_fi, Oc_cp, gc_jop, jop_gc, jop_q, jop_i, jop_s, jop_n, hk62]
theorem jo_162_84 {τ : gb_S} {k62 : Int → Int → gb_S → Option gb_P} (hk62 : ∀ (z0 : Int) (z1 : Int) (ρ : gb_S), k62 z0 z1 (Oc τ ρ) = jop (Oc τ) (k62 z0 z1 ρ)) (x1 : Int) (x2 : Int) (y0 : Int) (ρ : gb_S) : fx_162_84 k62 x1 x2 y0 (Oc τ ρ) = jop (Oc τ) (fx_162_84 k62 x1 x2 y0 ρ) := by
  unfold fx_162_84
  simp (disch := omega) only [Oc_rd, Oc_up, Oc_fi, Oc_cp, gc_jop, jop_gc, jop_q, jop_i, jop_s, jop_n, (jo_162_111 hk62), hk62]
theorem jo_162_62 (k : Nat) {τ : gb_S} : ∀ (x1 : Int) (x2 : Int) (ρ : gb_S), fx_162_62 k x1 x2 (Oc τ ρ) = jop (Oc τ) (fx_162_62 k x1 x2 ρ) := by
  induction k with
  | zero => intros; rfl
  | succ k ih =>
    intro x1 x2 ρ
    rw [fx_162_62, fx_162_62]
    simp (disch := omega) only [Oc_rd, Oc_up, Oc_fi, Oc_cp, gc_jop, jop_gc, jop_q, jop_i, jop_s, jop_n, (jo_162_84 ih), ih]
theorem jo_162_39 (k : Nat) {τ : gb_S} : ∀ (x1 : Int) (x2 : Int) (ρ : gb_S), fx_162_39 k x1 x2 (Oc τ ρ) = jop (Oc τ) (fx_162_39 k x1 x2 ρ) := by
  induction k with
  | zero => intros; rfl
  | succ k ih =>
    intro x1 x2 ρ
    rw [fx_162_39, fx_162_39]
    simp (disch := omega) only [Oc_rd, Oc_up, Oc_fi, Oc_cp, gc_jop, jop_gc, jop_q, jop_i, jop_s, jop_n, ih, (jo_162_62 _)]
theorem jo_162_4 (k : Nat) {τ : gb_S} : ∀ (x1 : Int) (x2 : Int) (ρ : gb_S), fx_162_4 k x1 x2 (Oc τ ρ) = jop (Oc τ) (fx_162_4 k x1 x2 ρ) := by
  induction k with
  | zero => intros; rfl
  | succ k ih =>
    intro x1 x2 ρ
    rw [fx_162_4, fx_162_4]
    simp (disch := omega) only [Oc_rd, Oc_up, Oc_fi, Oc_cp, gc_jop, jop_gc, jop_q, jop_i, jop_s, jop_n, ih, (jo_162_39 _)]
theorem jo_162 {τ : gb_S} (ρ : gb_S) : fx_162 (Oc τ ρ) = jop (Oc τ) (fx_162 ρ) := by
  unfold fx_162
  simp (disch := omega) only [Oc_rd, Oc_up, Oc_fi, Oc_cp, gc_jop, jop_gc, jop_q, jop_i, jop_s, jop_n, (jo_162_4 _)]
theorem jo_165_4 (k : Nat) {τ : gb_S} : ∀ (x1 : Int) (x2 : Int) (x3 : Int) (ρ : gb_S), fx_165_4 k x1 x2 x3 (Oc τ ρ) = jop (Oc τ) (fx_165_4 k x1 x2 x3 ρ) := by
  induction k with
  | zero => intros; rfl
  | succ k ih =>
    intro x1 x2 x3 ρ
    rw [fx_165_4, fx_165_4]
    simp (disch := omega) only [Oc_rd, Oc_up, Oc_fi, Oc_cp, gc_jop, jop_gc, jop_q, jop_i, jop_s, jop_n, jo_144, ih]
theorem jo_165 {τ : gb_S} (x1 : Int) (ρ : gb_S) : fx_165 x1 (Oc τ ρ) = jop (Oc τ) (fx_165 x1 ρ) := by
  unfold fx_165
  simp (disch := omega) only [Oc_rd, Oc_up, Oc_fi, Oc_cp, gc_jop, jop_gc, jop_q, jop_i, jop_s, jop_n, (jo_165_4 _)]
theorem jo_167_39 (k : Nat) {τ : gb_S} : ∀ (x1 : Int) (x2 : Int) (x4 : Int) (x6 : Int) (ρ : gb_S), fx_167_39 k x1 x2 x4 x6 (Oc τ ρ) = jop (Oc τ) (fx_167_39 k x1 x2 x4 x6 ρ) := by
  induction k with
  | zero => intros; rfl
  | succ k ih =>
    intro x1 x2 x4 x6 ρ
    rw [fx_167_39, fx_167_39]
    simp (disch := omega) only [Oc_rd, Oc_up, Oc_fi, Oc_cp, gc_jop, jop_gc, jop_q, jop_i, jop_s, jop_n, jo_144, ih, jo_164]
theorem jo_167 {τ : gb_S} (x1 : Int) (ρ : gb_S) : fx_167 x1 (Oc τ ρ) = jop (Oc τ) (fx_167 x1 ρ) := by
  unfold fx_167
  simp (disch := omega) only [Oc_rd, Oc_up, Oc_fi, Oc_cp, gc_jop, jop_gc, jop_q, jop_i, jop_s, jop_n, jo_165, (jo_167_39 _)]
theorem jo_166_124 (k : Nat) {τ : gb_S} : ∀ (x1 : Int) (x2 : Int) (x3 : Int) (ρ : gb_S), fx_166_124 k x1 x2 x3 (Oc τ ρ) = jop (Oc τ) (fx_166_124 k x1 x2 x3 ρ) := by
  induction k with
  | zero => intros; rfl
  | succ k ih =>
    intro x1 x2 x3 ρ
    rw [fx_166_124, fx_166_124]
    simp (disch := omega) only [Oc_rd, Oc_up, Oc_fi, Oc_cp, gc_jop, jop_gc, jop_q, jop_i, jop_s, jop_n, jo_158, jo_167, ih]
theorem jo_166_30 {τ : gb_S} {k7 : Int → Int → gb_S → Option gb_P} (hk7 : ∀ (z0 : Int) (z1 : Int) (ρ : gb_S), k7 z0 z1 (Oc τ ρ) = jop (Oc τ) (k7 z0 z1 ρ)) (x1 : Int) (x2 : Int) (y0 : Int) (y1 : Int) (ρ : gb_S) : fx_166_30 k7 x1 x2 y0 y1 (Oc τ ρ) = jop (Oc τ) (fx_166_30 k7 x1 x2 y0 y1 ρ) := by
  unfold fx_166_30
  simp (disch := omega) only [Oc_rd, Oc_up, Oc_fi, Oc_cp, gc_jop, jop_gc, jop_q, jop_i, jop_s, jop_n, hk7]
theorem jo_166_82 (k : Nat) {τ : gb_S} : ∀ (x1 : Int) (x2 : Int) (x3 : Int) (ρ : gb_S), fx_166_82 k x1 x2 x3 (Oc τ ρ) = jop (Oc τ) (fx_166_82 k x1 x2 x3 ρ) := by
  induction k with
  | zero => intros; rfl
  | succ k ih =>
    intro x1 x2 x3 ρ
    rw [fx_166_82, fx_166_82]
    simp (disch := omega) only [Oc_rd, Oc_up, Oc_fi, Oc_cp, gc_jop, jop_gc, jop_q, jop_i, jop_s, jop_n, ih, jo_164, (jo_166_124 _)]
theorem jo_166_53 (k : Nat) {τ : gb_S} : ∀ (x1 : Int) (x2 : Int) (ρ : gb_S), fx_166_53 k x1 x2 (Oc τ ρ) = jop (Oc τ) (fx_166_53 k x1 x2 ρ) := by
  induction k with
  | zero => intros; rfl
  | succ k ih =>
    intro x1 x2 ρ
    rw [fx_166_53, fx_166_53]
    simp (disch := omega) only [Oc_rd, Oc_up, Oc_fi, Oc_cp, gc_jop, jop_gc, jop_q, jop_i, jop_s, jop_n, jo_161, jo_162, ih, (jo_166_82 _)]
theorem jo_166_7 (k : Nat) {τ : gb_S} : ∀ (x1 : Int) (x2 : Int) (ρ : gb_S), fx_166_7 k x1 x2 (Oc τ ρ) = jop (Oc τ) (fx_166_7 k x1 x2 ρ) := by
  induction k with
  | zero => intros; rfl
  | succ k ih =>
    intro x1 x2 ρ
    rw [fx_166_7, fx_166_7]
    simp (disch := omega) only [Oc_rd, Oc_up, Oc_fi, Oc_cp, gc_jop, jop_gc, jop_q, jop_i, jop_s, jop_n, (jo_166_30 ih), ih, (jo_166_53 _)]
theorem jo_166 {τ : gb_S} (x1 : Int) (ρ : gb_S) : fx_166 x1 (Oc τ ρ) = jop (Oc τ) (fx_166 x1 ρ) := by
  unfold fx_166
  simp (disch := omega) only [Oc_rd, Oc_up, Oc_fi, Oc_cp, gc_jop, jop_gc, jop_q, jop_i, jop_s, jop_n, jo_160, (jo_166_7 _)]
theorem jo_168_199 {τ : gb_S} {k78 : Int → Int → Int → Int → Int → gb_S → Option gb_P} (hk78 : ∀ (z0 : Int) (z1 : Int) (z2 : Int) (z3 : Int) (z4 : Int) (ρ : gb_S), k78 z0 z1 z2 z3 z4 (Oc τ ρ) = jop (Oc τ) (k78 z0 z1 z2 z3 z4 ρ)) (x1 : Int) (x2 : Int) (x3 : Int) (x4 : Int) (x5 : Int) (y0 : Int) (y1 : Int) (y2 : Int) (ρ : gb_S) : fx_168_199 k78 x1 x2 x3 x4 x5 y0 y1 y2 (Oc τ ρ) = jop (Oc τ) (fx_168_199 k78 x1 x2 x3 x4 x5 y0 y1 y2 ρ) := by
  unfold fx_168_199
  simp (disch := omega) only [Oc_rd, Oc_up, Oc_fi, Oc_cp, gc_jop, jop_gc, jop_q, jop_i, jop_s, jop_n, jo_164, hk78]
theorem jo_168_167 {τ : gb_S} {k78 : Int → Int → Int → Int → Int → gb_S → Option gb_P} (hk78 : ∀ (z0 : Int) (z1 : Int) (z2 : Int) (z3 : Int) (z4 : Int) (ρ : gb_S), k78 z0 z1 z2 z3 z4 (Oc τ ρ) = jop (Oc τ) (k78 z0 z1 z2 z3 z4 ρ)) (x1 : Int) (x2 : Int) (x3 : Int) (x4 : Int) (x5 : Int) (y0 : Int) (ρ : gb_S) : fx_168_167 k78 x1 x2 x3 x4 x5 y0 (Oc τ ρ) = jop (Oc τ) (fx_168_167 k78 x1 x2 x3 x4 x5 y0 ρ) := by
  unfold fx_168_167
  simp (disch := omega) only [Oc_rd, Oc_up, Oc_fi, Oc_cp, gc_jop, jop_gc, jop_q, jop_i, jop_s, jop_n, (jo_168_199 hk78), hk78]
theorem jo_168_137 {τ : gb_S} {k78 : Int → Int → Int → Int → Int → gb_S → Option gb_P} (hk78 : ∀ (z0 : Int) (z1 : Int) (z2 : Int) (z3 : Int) (z4 : Int) (ρ : gb_S), k78 z0 z1 z2 z3 z4 (Oc τ ρ) = jop (Oc τ) (k78 z0 z1 z2 z3 z4 ρ)) (x1 : Int) (x2 : Int) (x3 : Int) (x4 : Int) (x5 : Int) (ρ : gb_S) : fx_168_137 k78 x1 x2 x3 x4 x5 (Oc τ ρ) = jop (Oc τ) (fx_168_137 k78 x1 x2 x3 x4 x5 ρ) := by
  unfold fx_168_137
  simp (disch := omega) only [Oc_rd, Oc_up, Oc_fi, Oc_cp, gc_jop, jop_gc, jop_q, jop_i, jop_s, jop_n, jo_158, (jo_168_167 hk78), hk78]
theorem jo_168_100 {τ : gb_S} {k78 : Int → Int → Int → Int → Int → gb_S → Option gb_P} (hk78 : ∀ (z0 : Int) (z1 : Int) (z2 : Int) (z3 : Int) (z4 : Int) (ρ : gb_S), k78 z0 z1 z2 z3 z4 (Oc τ ρ) = jop (Oc τ) (k78 z0 z1 z2 z3 z4 ρ)) (x1 : Int) (x2 : Int) (x3 : Int) (x4 : Int) (x5 : Int) (ρ : gb_S) : fx_168_100 k78 x1 x2 x3 x4 x5 (Oc τ ρ) = jop (Oc τ) (fx_168_100 k78 x1 x2 x3 x4 x5 ρ) := by
  unfold fx_168_100
  simp (disch := omega) only [Oc_rd, Oc_up, Oc_fi, Oc_cp, gc_jop, jop_gc, jop_q, jop_i, jop_s, jop_n, (jo_168_137 hk78), hk78]
theorem jo_168_96 {τ : gb_S} {k78 : Int → Int → Int → Int → Int → gb_S → Option gb_P} (hk78 : ∀ (z0 : Int) (z1 : Int) (z2 : Int) (z3 : Int) (z4 : Int) (ρ : gb_S), k78 z0 z1 z2 z3 z4 (Oc τ ρ) = jop (Oc τ) (k78 z0 z1 z2 z3 z4 ρ)) (x1 : Int) (x2 : Int) (x3 : Int) (x4 : Int) (x5 : Int) (ρ : gb_S) : fx_168_96 k78 x1 x2 x3 x4 x5 (Oc τ ρ) = jop (Oc τ) (fx_168_96 k78 x1 x2 x3 x4 x5 ρ) := by
  unfold fx_168_96
  simp (disch := omega) only [Oc_rd, Oc_up, Oc_fi, Oc_cp, gc_jop, jop_gc, jop_q, jop_i, jop_s, jop_n, (jo_168_100 hk78), (jo_168_137 hk78), hk78]
theorem jo_168_78 (k : Nat) {τ : gb_S} : ∀ (x1 : Int) (x2 : Int) (x3 : Int) (x4 : Int) (x5 : Int) (ρ : gb_S), fx_168_78 k x1 x2 x3 x4 x5 (Oc τ ρ) = jop (Oc τ) (fx_168_78 k x1 x2 x3 x4 x5 ρ) := by
  induction k with
  | zero => intros; rfl
  | succ k ih =>
    intro x1 x2 x3 x4 x5 ρ
    rw [fx_168_78, fx_168_78]
    simp (disch := omega) only [Oc_rd, Oc_up, Oc_fi, Oc_cp, gc_jop, jop_gc, jop_q, jop_i, jop_s, jop_n, (jo_168_100 ih), ih, (jo_168_96 ih)]
theorem jo_168_11 (k : Nat) {τ : gb_S} : ∀ (x1 : Int) (x2 : Int) (x3 : Int) (x4 : Int) (ρ : gb_S), fx_168_11 k x1 x2 x3 x4 (Oc τ ρ) = jop (Oc τ) (fx_168_11 k x1 x2 x3 x4 ρ) := by
  induction k with
  | zero => intros; rfl
  | succ k ih =>
    intro x1 x2 x3 x4 ρ
    rw [fx_168_11, fx_168_11]
    simp (disch := omega) only [Oc_rd, Oc_up, Oc_fi, Oc_cp, gc_jop, jop_gc, jop_q, jop_i, jop_s, jop_n, jo_158, ih, (jo_168_78 _)]
theorem jo_168 {τ : gb_S} (x1 : Int) (ρ : gb_S) : fx_168 x1 (Oc τ ρ) = jop (Oc τ) (fx_168 x1 ρ) := by
  unfold fx_168
  simp (disch := omega) only [Oc_rd, Oc_up, Oc_fi, Oc_cp, gc_jop, jop_gc, jop_q, jop_i, jop_s, jop_n, jo_166, (jo_168_11 _)]
theorem jo_170_26 (k : Nat) {τ : gb_S} {k2 : Int → gb_S → Option gb_P} (hk2 : ∀ (z0 : Int) (ρ : gb_S), k2 z0 (Oc τ ρ) = jop (Oc τ) (k2 z0 ρ)) : ∀ (x1 : Int) (x2 : Int) (ρ : gb_S), fx_170_26 k k2 x1 x2 (Oc τ ρ) = jop (Oc τ) (fx_170_26 k k2 x1 x2 ρ) := by
  induction k with
  | zero => intros; rfl
  | succ k ih =>
    intro x1 x2 ρ
    rw [fx_170_26, fx_170_26]
    simp (disch := omega) only [Oc_rd, Oc_up, Oc_fi, Oc_cp, gc_jop, jop_gc, jop_q, jop_i, jop_s, jop_n, ih, hk2]
theorem jo_170_2 (k : Nat) {τ : gb_S} : ∀ (x1 : Int) (ρ : gb_S), fx_170_2 k x1 (Oc τ ρ) = jop (Oc τ) (fx_170_2 k x1 ρ) := by
  induction k with
  | zero => intros; rfl
  | succ k ih =>
    intro x1 ρ
    rw [fx_170_2, fx_170_2]
    simp (disch := omega) only [Oc_rd, Oc_up, Oc_fi, Oc_cp, gc_jop, jop_gc, jop_q, jop_i, jop_s, jop_n, ih, jo_168, (jo_170_26 _ ih)]
theorem jo_170 {τ : gb_S} (ρ : gb_S) : fx_170 (Oc τ ρ) = jop (Oc τ) (fx_170 ρ) := by
  unfold fx_170
  simp (disch := omega) only [Oc_rd, Oc_up, Oc_fi, Oc_cp, gc_jop, jop_gc, jop_q, jop_i, jop_s, jop_n, (jo_170_2 _)]
theorem jo_171_9 (k : Nat) {τ : gb_S} : ∀ (x1 : Int) (x2 : Int) (x3 : Int) (ρ : gb_S), fx_171_9 k x1 x2 x3 (Oc τ ρ) = jop (Oc τ) (fx_171_9 k x1 x2 x3 ρ) := by
  induction k with
  | zero => intros; rfl
  | succ k ih =>
    intro x1 x2 x3 ρ
    rw [fx_171_9, fx_171_9]
    simp (disch := omega) only [Oc_rd, Oc_up, Oc_fi, Oc_cp, gc_jop, jop_gc, jop_q, jop_i, jop_s, jop_n, ih]
theorem jo_171 {τ : gb_S} (x1 : Int) (ρ : gb_S) : fx_171 x1 (Oc τ ρ) = jop (Oc τ) (fx_171 x1 ρ) := by
  unfold fx_171
  simp (disch := omega) only [Oc_rd, Oc_up, Oc_fi, Oc_cp, gc_jop, jop_gc, jop_q, jop_i, jop_s, jop_n, jo_168, (jo_171_9 _)]
theorem jo_172_2 (k : Nat) {τ : gb_S} : ∀ (x1 : Int) (ρ : gb_S), fx_172_2 k x1 (Oc τ ρ) = jop (Oc τ) (fx_172_2 k x1 ρ) := by
  induction k with
  | zero => intros; rfl
  | succ k ih =>
    intro x1 ρ
    rw [fx_172_2, fx_172_2]
    simp (disch := omega) only [Oc_rd, Oc_up, Oc_fi, Oc_cp, gc_jop, jop_gc, jop_q, jop_i, jop_s, jop_n, ih, jo_171]
theorem jo_172 {τ : gb_S} (ρ : gb_S) : fx_172 (Oc τ ρ) = jop (Oc τ) (fx_172 ρ) := by
  unfold fx_172
  simp (disch := omega) only [Oc_rd, Oc_up, Oc_fi, Oc_cp, gc_jop, jop_gc, jop_q, jop_i, jop_s, jop_n, (jo_172_2 _)]
theorem jo_145_75 {τ : gb_S} (x1 : Int) (x2 : Int) (x3 : Int) (y0 : Int) (y1 : Int) (y2 : Int) (ρ : gb_S) : fx_145_75 x1 x2 x3 y0 y1 y2 (Oc τ ρ) = jop (Oc τ) (fx_145_75 x1 x2 x3 y0 y1 y2 ρ) := by
  unfold fx_145_75
  simp (disch := omega) only [Oc_rd, Oc_up, Oc_fi, Oc_cp, gc_jop, jop_gc, jop_q, jop_i, jop_s, jop_n, jo_129, jo_170, jo_172]
theorem jo_145_61 {τ : gb_S} (x1 : Int) (x2 : Int) (x3 : Int) (y0 : Int) (y1 : Int) (ρ : gb_S) : fx_145_61 x1 x2 x3 y0 y1 (Oc τ ρ) = jop (Oc τ) (fx_145_61 x1 x2 x3 y0 y1 ρ) := by
  unfold fx_145_61
  simp (disch := omega) only [Oc_rd, Oc_up, Oc_fi, Oc_cp, gc_jop, jop_gc, jop_q, jop_i, jop_s, jop_n, jo_145_75]
theorem jo_145_21 {τ : gb_S} (x1 : Int) (x2 : Int) (x3 : Int) (y0 : Int) (ρ : gb_S) : fx_145_21 x1 x2 x3 y0 (Oc τ ρ) = jop (Oc τ) (fx_145_21 x1 x2 x3 y0 ρ) := by
  unfold fx_145_21
  simp (disch := omega) only [Oc_rd, Oc_up, Oc_fi, Oc_cp, gc_jop, jop_gc, jop_q, jop_i, jop_s, jop_n, jo_145_61, jo_126]
theorem jo_145 {τ : gb_S} (x1 : Int) (x2 : Int) (x3 : Int) (ρ : gb_S) : fx_145 x1 x2 x3 (Oc τ ρ) = jop (Oc τ) (fx_145 x1 x2 x3 ρ) := by
  unfold fx_145
  simp (disch := omega) only [Oc_rd, Oc_up, Oc_fi, Oc_cp, gc_jop, jop_gc, jop_q, jop_i, jop_s, jop_n, jo_131, jo_145_21]
theorem jo_146_42 {τ : gb_S} (x1 : Int) (x2 : Int) (y0 : Int) (y1 : Int) (y2 : Int) (ρ : gb_S) : fx_146_42 x1 x2 y0 y1 y2 (Oc τ ρ) = jop (Oc τ) (fx_146_42 x1 x2 y0 y1 y2 ρ) := by
  unfold fx_146_42
  simp (disch := omega) only [Oc_rd, Oc_up, Oc_fi, Oc_cp, gc_jop, jop_gc, jop_q, jop_i, jop_s, jop_n, jo_129, jo_170, jo_172]
theorem jo_146 {τ : gb_S} (x1 : Int) (x2 : Int) (ρ : gb_S) : fx_146 x1 x2 (Oc τ ρ) = jop (Oc τ) (fx_146 x1 x2 ρ) := by
  unfold fx_146
  simp (disch := omega) only [Oc_rd, Oc_up, Oc_fi, Oc_cp, gc_jop, jop_gc, jop_q, jop_i, jop_s, jop_n, jo_132, jo_126, jo_146_42]
theorem jo_169_9 (k : Nat) {τ : gb_S} : ∀ (x2 : Int) (x3 : Int) (ρ : gb_S), fx_169_9 k x2 x3 (Oc τ ρ) = jop (Oc τ) (fx_169_9 k x2 x3 ρ) := by
  induction k with
  | zero => intros; rfl
  | succ k ih =>
    intro x2 x3 ρ
    rw [fx_169_9, fx_169_9]
    simp (disch := omega) only [Oc_rd, Oc_up, Oc_fi, Oc_cp, gc_jop, jop_gc, jop_q, jop_i, jop_s, jop_n, ih]
theorem jo_169 {τ : gb_S} (x1 : Int) (ρ : gb_S) : fx_169 x1 (Oc τ ρ) = jop (Oc τ) (fx_169 x1 ρ) := by
  unfold fx_169
  simp (disch := omega) only [Oc_rd, Oc_up, Oc_fi, Oc_cp, gc_jop, jop_gc, jop_q, jop_i, jop_s, jop_n, jo_168, (jo_169_9 _)]
theorem jo_153_5 (k : Nat) {τ : gb_S} : ∀ (x1 : Int) (x2 : Int) (x3 : Int) (x4 : Int) (ρ : gb_S), fx_153_5 k x1 x2 x3 x4 (Oc τ ρ) = jop (Oc τ) (fx_153_5 k x1 x2 x3 x4 ρ) := by
  induction k with
  | zero => intros; rfl
  | succ k ih =>
    intro x1 x2 x3 x4 ρ
    rw [fx_153_5, fx_153_5]
    simp (disch := omega) only [Oc_rd, Oc_up, Oc_fi, Oc_cp, gc_jop, jop_gc, jop_q, jop_i, jop_s, jop_n, ih]
theorem jo_153 {τ : gb_S} (x1 : Int) (x2 : Int) (ρ : gb_S) : fx_153 x1 x2 (Oc τ ρ) = jop (Oc τ) (fx_153 x1 x2 ρ) := by
  unfold fx_153
  simp (disch := omega) only [Oc_rd, Oc_up, Oc_fi, Oc_cp, gc_jop, jop_gc, jop_q, jop_i, jop_s, jop_n, (jo_153_5 _)]
theorem jo_181_129 {τ : gb_S} {k78 : Int → Int → Int → gb_S → Option gb_P} (hk78 : ∀ (z0 : Int) (z1 : Int) (z2 : Int) (ρ : gb_S), k78 z0 z1 z2 (Oc τ ρ) = jop (Oc τ) (k78 z0 z1 z2 ρ)) (x1 : Int) (x3 : Int) (x4 : Int) (x5 : Int) (ρ : gb_S) : fx_181_129 k78 x1 x3 x4 x5 (Oc τ ρ) = jop (Oc τ) (fx_181_129 k78 x1 x3 x4 x5 ρ) := by
  unfold fx_181_129
  simp (disch := omega) only [Oc_rd, Oc_up, Oc_fi, Oc_cp, gc_jop, jop_gc, jop_q, jop_i, jop_s, jop_n, hk78]
theorem jo_181_49 {τ : gb_S} {k5 : Int → Int → Int → gb_S → Option gb_P} (hk5 : ∀ (z0 : Int) (z1 : Int) (z2 : Int) (ρ : gb_S), k5 z0 z1 z2 (Oc τ ρ) = jop (Oc τ) (k5 z0 z1 z2 ρ)) (x1 : Int) (x3 : Int) (x4 : Int) (x5 : Int) (ρ : gb_S) : fx_181_49 k5 x1 x3 x4 x5 (Oc τ ρ) = jop (Oc τ) (fx_181_49 k5 x1 x3 x4 x5 ρ) := by
  unfold fx_181_49
  simp (disch := omega) only [Oc_rd, Oc_up, Oc_fi, Oc_cp, gc_jop, jop_gc, jop_q, jop_i, jop_s, jop_n, hk5]
theorem jo_181_115 {τ : gb_S} {k78 : Int → Int → Int → gb_S → Option gb_P} (hk78 : ∀ (z0 : Int) (z1 : Int) (z2 : Int) (ρ : gb_S), k78 z0 z1 z2 (Oc τ ρ) = jop (Oc τ) (k78 z0 z1 z2 ρ)) (x1 : Int) (x3 : Int) (x4 : Int) (y0 : Int) (ρ : gb_S) : fx_181_115 k78 x1 x3 x4 y0 (Oc τ ρ) = jop (Oc τ) (fx_181_115 k78 x1 x3 x4 y0 ρ) := by
  unfold fx_181_115
  simp (disch := omega) only [Oc_rd, Oc_up, Oc_fi, Oc_cp, gc_jop, jop_gc, jop_q, jop_i, jop_s, jop_n, (jo_181_129 hk78), hk78]
theorem jo_181_78 (k : Nat) {τ : gb_S} : ∀ (x1 : Int) (x3 : Int) (x4 : Int) (ρ : gb_S), fx_181_78 k x1 x3 x4 (Oc τ ρ) = jop (Oc τ) (fx_181_78 k x1 x3 x4 ρ) := by
  induction k with
  | zero => intros; rfl
  | succ k ih =>
    intro x1 x3 x4 ρ
    rw [fx_181_78, fx_181_78]
    simp (disch := omega) only [Oc_rd, Oc_up, Oc_fi, Oc_cp, gc_jop, jop_gc, jop_q, jop_i, jop_s, jop_n, jo_153, (jo_181_115 ih), ih]
theorem jo_181_5 (k : Nat) {τ : gb_S} : ∀ (x1 : Int) (x3 : Int) (x4 : Int) (ρ : gb_S), fx_181_5 k x1 x3 x4 (Oc τ ρ) = jop (Oc τ) (fx_181_5 k x1 x3 x4 ρ) := by
  induction k with
  | zero => intros; rfl
  | succ k ih =>
    intro x1 x3 x4 ρ
    rw [fx_181_5, fx_181_5]
    simp (disch := omega) only [Oc_rd, Oc_up, Oc_fi, Oc_cp, gc_jop, jop_gc, jop_q, jop_i, jop_s, jop_n, (jo_181_49 ih), ih, (jo_181_78 _)]
theorem jo_181 {τ : gb_S} (x1 : Int) (x2 : Int) (ρ : gb_S) : fx_181 x1 x2 (Oc τ ρ) = jop (Oc τ) (fx_181 x1 x2 ρ) := by
  unfold fx_181
  simp (disch := omega) only [Oc_rd, Oc_up, Oc_fi, Oc_cp, gc_jop, jop_gc, jop_q, jop_i, jop_s, jop_n, (jo_181_5 _)]
theorem jo_182_4 (k : Nat) {τ : gb_S} : ∀ (x1 : Int) (x2 : Int) (x3 : Int) (ρ : gb_S), fx_182_4 k x1 x2 x3 (Oc τ ρ) = jop (Oc τ) (fx_182_4 k x1 x2 x3 ρ) := by
  induction k with
  | zero => intros; rfl
  | succ k ih =>
    intro x1 x2 x3 ρ
    rw [fx_182_4, fx_182_4]
    simp (disch := omega) only [Oc_rd, Oc_up, Oc_fi, Oc_cp, gc_jop, jop_gc, jop_q, jop_i, jop_s, jop_n, ih]
theorem jo_182 {τ : gb_S} (x1 : Int) (ρ : gb_S) : fx_182 x1 (Oc τ ρ) = jop (Oc τ) (fx_182 x1 ρ) := by
  unfold fx_182
  simp (disch := omega) only [Oc_rd, Oc_up, Oc_fi, Oc_cp, gc_jop, jop_gc, jop_q, jop_i, jop_s, jop_n, (jo_182_4 _)]
theorem jo_183_118 (k : Nat) {τ : gb_S} {k74 : Int → Int → Int → Int → Int → Int → Int → gb_S → Option gb_P} (hk74 : ∀ (z0 : Int) (z1 : Int) (z2 : Int) (z3 : Int) (z4 : Int) (z5 : Int) (z6 : Int) (ρ : gb_S), k74 z0 z1 z2 z3 z4 z5 z6 (Oc τ ρ) = jop (Oc τ) (k74 z0 z1 z2 z3 z4 z5 z6 ρ)) : ∀ (x1 : Int) (x2 : Int) (x3 : Int) (x4 : Int) (x5 : Int) (x6 : Int) (x7 : Int) (ρ : gb_S), fx_183_118 k k74 x1 x2 x3 x4 x5 x6 x7 (Oc τ ρ) = jop (Oc τ) (fx_183_118 k k74 x1 x2 x3 x4 x5 x6 x7 ρ) := by
  induction k with
  | zero => intros; rfl
  | succ k ih =>
    intro x1 x2 x3 x4 x5 x6 x7 ρ
    rw [fx_183_118, fx_183_118]
    simp (disch := omega) only [Oc_rd, Oc_up, Oc_fi, Oc_cp, gc_jop, jop_gc, jop_q, jop_i, jop_s, jop_n, jo_181, ih, hk74]
theorem jo_183_107 {τ : gb_S} {k74 : Int → Int → Int → Int → Int → Int → Int → gb_S → Option gb_P} (hk74 : ∀ (z0 : Int) (z1 : Int) (z2 : Int) (z3 : Int) (z4 : Int) (z5 : Int) (z6 : Int) (ρ : gb_S), k74 z0 z1 z2 z3 z4 z5 z6 (Oc τ ρ) = jop (Oc τ) (k74 z0 z1 z2 z3 z4 z5 z6 ρ)) (x1 : Int) (x2 : Int) (x3 : Int) (x4 : Int) (x5 : Int) (x6 : Int) (x7 : Int) (ρ : gb_S) : fx_183_107 k74 x1 x2 x3 x4 x5 x6 x7 (Oc τ ρ) = jop (Oc τ) (fx_183_107 k74 x1 x2 x3 x4 x5 x6 x7 ρ) := by
  unfold fx_183_107
  simp (disch := omega) only [Oc_rd, Oc_up, Oc_fi, Oc_cp, gc_jop, jop_gc, jop_q, jop_i, jop_s, jop_n, (jo_183_118 _ hk74), hk74]
theorem jo_183_74 (k : Nat) {τ : gb_S} : ∀ (x1 : Int) (x2 : Int) (x3 : Int) (x4 : Int) (x5 : Int) (x6 : Int) (x7 : Int) (ρ : gb_S), fx_183_74 k x1 x2 x3 x4 x5 x6 x7 (Oc τ ρ) = jop (Oc τ) (fx_183_74 k x1 x2 x3 x4 x5 x6 x7 ρ) := by
  induction k with
  | zero => intros; rfl
  | succ k ih =>
    intro x1 x2 x3 x4 x5 x6 x7 ρ
    rw [fx_183_74, fx_183_74]
    simp (disch := omega) only [Oc_rd, Oc_up, Oc_fi, Oc_cp, gc_jop, jop_gc, jop_q, jop_i, jop_s, jop_n, ih, (jo_183_107 ih)]
theorem jo_183_26 (k : Nat) {τ : gb_S} : ∀ (x1 : Int) (x2 : Int) (x3 : Int) (x4 : Int) (x5 : Int) (ρ : gb_S), fx_183_26 k x1 x2 x3 x4 x5 (Oc τ ρ) = jop (Oc τ) (fx_183_26 k x1 x2 x3 x4 x5 ρ) := by
  induction k with
  | zero => intros; rfl
  | succ k ih =>
    intro x1 x2 x3 x4 x5 ρ
    rw [fx_183_26, fx_183_26]
    simp (disch := omega) only [Oc_rd, Oc_up, Oc_fi, Oc_cp, gc_jop, jop_gc, jop_q, jop_i, jop_s, jop_n, ih, (jo_183_74 _)]
theorem jo_183 {τ : gb_S} (x1 : Int) (ρ : gb_S) : fx_183 x1 (Oc τ ρ) = jop (Oc τ) (fx_183 x1 ρ) := by
  unfold fx_183
  simp (disch := omega) only [Oc_rd, Oc_up, Oc_fi, Oc_cp, gc_jop, jop_gc, jop_q, jop_i, jop_s, jop_n, jo_182, jo_169, (jo_183_26 _)]
theorem jo_184_118 {τ : gb_S} {k23 : Int → gb_S → Option gb_P} (hk23 : ∀ (z0 : Int) (ρ : gb_S), k23 z0 (Oc τ ρ) = jop (Oc τ) (k23 z0 ρ)) (x1 : Int) (ρ : gb_S) : fx_184_118 k23 x1 (Oc τ ρ) = jop (Oc τ) (fx_184_118 k23 x1 ρ) := by
  unfold fx_184_118
  simp (disch := omega) only [Oc_rd, Oc_up, Oc_fi, Oc_cp, gc_jop, jop_gc, jop_q, jop_i, jop_s, jop_n, jo_183, hk23]
theorem jo_184_38 (k : Nat) {τ : gb_S} {k23 : Int → gb_S → Option gb_P} (hk23 : ∀ (z0 : Int) (ρ : gb_S), k23 z0 (Oc τ ρ) = jop (Oc τ) (k23 z0 ρ)) : ∀ (x1 : Int) (x2 : Int) (ρ : gb_S), fx_184_38 k k23 x1 x2 (Oc τ ρ) = jop (Oc τ) (fx_184_38 k k23 x1 x2 ρ) := by
  induction k with
  | zero => intros; rfl
  | succ k ih =>
    intro x1 x2 ρ
    rw [fx_184_38, fx_184_38]
    simp (disch := omega) only [Oc_rd, Oc_up, Oc_fi, Oc_cp, gc_jop, jop_gc, jop_q, jop_i, jop_s, jop_n, (jo_184_118 hk23), ih, hk23]
theorem jo_184_23 (k : Nat) {τ : gb_S} : ∀ (x1 : Int) (ρ : gb_S), fx_184_23 k x1 (Oc τ ρ) = jop (Oc τ) (fx_184_23 k x1 ρ) := by
  induction k with
  | zero => intros; rfl
  | succ k ih =>
    intro x1 ρ
    rw [fx_184_23, fx_184_23]
    simp (disch := omega) only [Oc_rd, Oc_up, Oc_fi, Oc_cp, gc_jop, jop_gc, jop_q, jop_i, jop_s, jop_n, (jo_184_38 _ ih), ih]
theorem jo_184_2 (k : Nat) {τ : gb_S} : ∀ (x1 : Int) (ρ : gb_S), fx_184_2 k x1 (Oc τ ρ) = jop (Oc τ) (fx_184_2 k x1 ρ) := by
  induction k with
  | zero => intros; rfl
  | succ k ih =>
    intro x1 ρ
    rw [fx_184_2, fx_184_2]
    simp (disch := omega) only [Oc_rd, Oc_up, Oc_fi, Oc_cp, gc_jop, jop_gc, jop_q, jop_i, jop_s, jop_n, ih, (jo_184_23 _)]
theorem jo_184 {τ : gb_S} (ρ : gb_S) : fx_184 (Oc τ ρ) = jop (Oc τ) (fx_184 ρ) := by
  unfold fx_184
  simp (disch := omega) only [Oc_rd, Oc_up, Oc_fi, Oc_cp, gc_jop, jop_gc, jop_q, jop_i, jop_s, jop_n, (jo_184_2 _)]
theorem jo_147_170 (k : Nat) {τ : gb_S} : ∀ (x4 : Int) (x5 : Int) (ρ : gb_S), fx_147_170 k x4 x5 (Oc τ ρ) = jop (Oc τ) (fx_147_170 k x4 x5 ρ) := by
  induction k with
  | zero => intros; rfl
  | succ k ih =>
    intro x4 x5 ρ
    rw [fx_147_170, fx_147_170]
    simp (disch := omega) only [Oc_rd, Oc_up, Oc_fi, Oc_cp, gc_jop, jop_gc, jop_q, jop_i, jop_s, jop_n, ih]
theorem jo_147_151 {τ : gb_S} (ρ : gb_S) : fx_147_151 (Oc τ ρ) = jop (Oc τ) (fx_147_151 ρ) := by
  unfold fx_147_151
  simp (disch := omega) only [Oc_rd, Oc_up, Oc_fi, Oc_cp, gc_jop, jop_gc, jop_q, jop_i, jop_s, jop_n, jo_172, jo_184, (jo_147_170 _)]
theorem jo_147_82 (k : Nat) {τ : gb_S} : ∀ (x1 : Int) (x2 : Int) (x4 : Int) (ρ : gb_S), fx_147_82 k x1 x2 x4 (Oc τ ρ) = jop (Oc τ) (fx_147_82 k x1 x2 x4 ρ) := by
  induction k with
  | zero => intros; rfl
  | succ k ih =>
    intro x1 x2 x4 ρ
    rw [fx_147_82, fx_147_82]
    simp (disch := omega) only [Oc_rd, Oc_up, Oc_fi, Oc_cp, gc_jop, jop_gc, jop_q, jop_i, jop_s, jop_n, jo_147_151, ih]
theorem jo_147_45 (k : Nat) {τ : gb_S} : ∀ (x1 : Int) (x2 : Int) (x4 : Int) (ρ : gb_S), fx_147_45 k x1 x2 x4 (Oc τ ρ) = jop (Oc τ) (fx_147_45 k x1 x2 x4 ρ) := by
  induction k with
  | zero => intros; rfl
  | succ k ih =>
    intro x1 x2 x4 ρ
    rw [fx_147_45, fx_147_45]
    simp (disch := omega) only [Oc_rd, Oc_up, Oc_fi, Oc_cp, gc_jop, jop_gc, jop_q, jop_i, jop_s, jop_n, ih, (jo_147_82 _)]
theorem jo_147_26 {τ : gb_S} (x1 : Int) (x2 : Int) (y0 : Int) (y1 : Int) (ρ : gb_S) : fx_147_26 x1 x2 y0 y1 (Oc τ ρ) = jop (Oc τ) (fx_147_26 x1 x2 y0 y1 ρ) := by
  unfold fx_147_26
  simp (disch := omega) only [Oc_rd, Oc_up, Oc_fi, Oc_cp, gc_jop, jop_gc, jop_q, jop_i, jop_s, jop_n, jo_128, jo_170, jo_184, (jo_147_45 _)]
theorem jo_147 {τ : gb_S} (x1 : Int) (x2 : Int) (ρ : gb_S) : fx_147 x1 x2 (Oc τ ρ) = jop (Oc τ) (fx_147 x1 x2 ρ) := by
  unfold fx_147
  simp (disch := omega) only [Oc_rd, Oc_up, Oc_fi, Oc_cp, gc_jop, jop_gc, jop_q, jop_i, jop_s, jop_n, jo_133, jo_147_26]
theorem jo_148 {τ : gb_S} (x1 : Int) (ρ : gb_S) : fx_148 x1 (Oc τ ρ) = jop (Oc τ) (fx_148 x1 ρ) := by
  unfold fx_148
  simp (disch := omega) only [Oc_rd, Oc_up, Oc_fi, Oc_cp, gc_jop, jop_gc, jop_q, jop_i, jop_s, jop_n, jo_132, jo_127, jo_141]
theorem jo_149_4 (k : Nat) {τ : gb_S} : ∀ (x1 : Int) (x2 : Int) (ρ : gb_S), fx_149_4 k x1 x2 (Oc τ ρ) = jop (Oc τ) (fx_149_4 k x1 x2 ρ) := by
  induction k with
  | zero => intros; rfl
  | succ k ih =>
    intro x1 x2 ρ
    rw [fx_149_4, fx_149_4]
    simp (disch := omega) only [Oc_rd, Oc_up, Oc_fi, Oc_cp, gc_jop, jop_gc, jop_q, jop_i, jop_s, jop_n, ih, jo_130]
theorem jo_149 {τ : gb_S} (ρ : gb_S) : fx_149 (Oc τ ρ) = jop (Oc τ) (fx_149 ρ) := by
  unfold fx_149
  simp (disch := omega) only [Oc_rd, Oc_up, Oc_fi, Oc_cp, gc_jop, jop_gc, jop_q, jop_i, jop_s, jop_n, (jo_149_4 _)]
theorem jo_150 {τ : gb_S} (x1 : Int) (x2 : Int) (ρ : gb_S) : fx_150 x1 x2 (Oc τ ρ) = jop (Oc τ) (fx_150 x1 x2 ρ) := by
  unfold fx_150
  simp (disch := omega) only [Oc_rd, Oc_up, Oc_fi, Oc_cp, gc_jop, jop_gc, jop_q, jop_i, jop_s, jop_n, jo_131, jo_126, jo_128, jo_143]
theorem jo_151_22 (k : Nat) {τ : gb_S} : ∀ (x1 : Int) (x2 : Int) (x3 : Int) (ρ : gb_S), fx_151_22 k x1 x2 x3 (Oc τ ρ) = jop (Oc τ) (fx_151_22 k x1 x2 x3 ρ) := by
  induction k with
  | zero => intros; rfl
  | succ k ih =>
    intro x1 x2 x3 ρ
    rw [fx_151_22, fx_151_22]
    simp (disch := omega) only [Oc_rd, Oc_up, Oc_fi, Oc_cp, gc_jop, jop_gc, jop_q, jop_i, jop_s, jop_n, jo_144, ih]
theorem jo_151 {τ : gb_S} (x1 : Int) (ρ : gb_S) : fx_151 x1 (Oc τ ρ) = jop (Oc τ) (fx_151 x1 ρ) := by
  unfold fx_151
  simp (disch := omega) only [Oc_rd, Oc_up, Oc_fi, Oc_cp, gc_jop, jop_gc, jop_q, jop_i, jop_s, jop_n, jo_131, jo_127, jo_143, (jo_151_22 _)]
theorem jo_152_66 {τ : gb_S} (x1 : Int) (x2 : Int) (x3 : Int) (y0 : Int) (y1 : Int) (y2 : Int) (ρ : gb_S) : fx_152_66 x1 x2 x3 y0 y1 y2 (Oc τ ρ) = jop (Oc τ) (fx_152_66 x1 x2 x3 y0 y1 y2 ρ) := by
  unfold fx_152_66
  simp (disch := omega) only [Oc_rd, Oc_up, Oc_fi, Oc_cp, gc_jop, jop_gc, jop_q, jop_i, jop_s, jop_n, jo_129]
theorem jo_152_46 {τ : gb_S} (x1 : Int) (x2 : Int) (x3 : Int) (x4 : Int) (y0 : Int) (y1 : Int) (ρ : gb_S) : fx_152_46 x1 x2 x3 x4 y0 y1 (Oc τ ρ) = jop (Oc τ) (fx_152_46 x1 x2 x3 x4 y0 y1 ρ) := by
  unfold fx_152_46
  simp (disch := omega) only [Oc_rd, Oc_up, Oc_fi, Oc_cp, gc_jop, jop_gc, jop_q, jop_i, jop_s, jop_n, jo_152_66]
theorem jo_152_21 {τ : gb_S} (x1 : Int) (x2 : Int) (x3 : Int) (y0 : Int) (ρ : gb_S) : fx_152_21 x1 x2 x3 y0 (Oc τ ρ) = jop (Oc τ) (fx_152_21 x1 x2 x3 y0 ρ) := by
  unfold fx_152_21
  simp (disch := omega) only [Oc_rd, Oc_up, Oc_fi, Oc_cp, gc_jop, jop_gc, jop_q, jop_i, jop_s, jop_n, jo_152_46, jo_126]
theorem jo_152 {τ : gb_S} (x1 : Int) (x2 : Int) (x3 : Int) (ρ : gb_S) : fx_152 x1 x2 x3 (Oc τ ρ) = jop (Oc τ) (fx_152 x1 x2 x3 ρ) := by
  unfold fx_152
  simp (disch := omega) only [Oc_rd, Oc_up, Oc_fi, Oc_cp, gc_jop, jop_gc, jop_q, jop_i, jop_s, jop_n, jo_131, jo_152_21]
theorem jo_154_72 {τ : gb_S} (x1 : Int) (x2 : Int) (y0 : Int) (y1 : Int) (ρ : gb_S) : fx_154_72 x1 x2 y0 y1 (Oc τ ρ) = jop (Oc τ) (fx_154_72 x1 x2 y0 y1 ρ) := by
  unfold fx_154_72
  simp (disch := omega) only [Oc_rd, Oc_up, Oc_fi, Oc_cp, gc_jop, jop_gc, jop_q, jop_i, jop_s, jop_n, jo_128]
theorem jo_154_21 {τ : gb_S} (x1 : Int) (x2 : Int) (y0 : Int) (ρ : gb_S) : fx_154_21 x1 x2 y0 (Oc τ ρ) = jop (Oc τ) (fx_154_21 x1 x2 y0 ρ) := by
  unfold fx_154_21
  simp (disch := omega) only [Oc_rd, Oc_up, Oc_fi, Oc_cp, gc_jop, jop_gc, jop_q, jop_i, jop_s, jop_n, jo_154_72, jo_153]
theorem jo_154 {τ : gb_S} (x1 : Int) (x2 : Int) (ρ : gb_S) : fx_154 x1 x2 (Oc τ ρ) = jop (Oc τ) (fx_154 x1 x2 ρ) := by
  unfold fx_154
  simp (disch := omega) only [Oc_rd, Oc_up, Oc_fi, Oc_cp, gc_jop, jop_gc, jop_q, jop_i, jop_s, jop_n, jo_131, jo_154_21]
theorem jo_155 {τ : gb_S} (x1 : Int) (ρ : gb_S) : fx_155 x1 (Oc τ ρ) = jop (Oc τ) (fx_155 x1 ρ) := by
  unfold fx_155
  simp (disch := omega) only [Oc_rd, Oc_up, Oc_fi, Oc_cp, gc_jop, jop_gc, jop_q, jop_i, jop_s, jop_n, jo_131, jo_127]
theorem jo_180 {τ : gb_S} (x1 : Int) (x2 : Int) (x3 : Int) (x4 : Int) (x5 : Int) (ρ : gb_S) : fx_180 x1 x2 x3 x4 x5 (Oc τ ρ) = jop (Oc τ) (fx_180 x1 x2 x3 x4 x5 ρ) := by
  unfold fx_180
  simp (disch := omega) only [Oc_rd, Oc_up, Oc_fi, Oc_cp, gc_jop, jop_gc, jop_q, jop_i, jop_s, jop_n]
theorem jo_156_53 (k : Nat) {τ : gb_S} : ∀ (x1 : Int) (x3 : Int) (ρ : gb_S), fx_156_53 k x1 x3 (Oc τ ρ) = jop (Oc τ) (fx_156_53 k x1 x3 ρ) := by
  induction k with
  | zero => intros; rfl
  | succ k ih =>
    intro x1 x3 ρ
    rw [fx_156_53, fx_156_53]
    simp (disch := omega) only [Oc_rd, Oc_up, Oc_fi, Oc_cp, gc_jop, jop_gc, jop_q, jop_i, jop_s, jop_n, ih, jo_180, jo_169]
theorem jo_156_36 {τ : gb_S} (x1 : Int) (y0 : Int) (y1 : Int) (ρ : gb_S) : fx_156_36 x1 y0 y1 (Oc τ ρ) = jop (Oc τ) (fx_156_36 x1 y0 y1 ρ) := by
  unfold fx_156_36
  simp (disch := omega) only [Oc_rd, Oc_up, Oc_fi, Oc_cp, gc_jop, jop_gc, jop_q, jop_i, jop_s, jop_n, jo_128, (jo_156_53 _)]
theorem jo_156 {τ : gb_S} (x1 : Int) (ρ : gb_S) : fx_156 x1 (Oc τ ρ) = jop (Oc τ) (fx_156 x1 ρ) := by
  unfold fx_156
  simp (disch := omega) only [Oc_rd, Oc_up, Oc_fi, Oc_cp, gc_jop, jop_gc, jop_q, jop_i, jop_s, jop_n, jo_131, jo_156_36]
theorem jo_157 {τ : gb_S} (x1 : Int) (ρ : gb_S) : fx_157 x1 (Oc τ ρ) = jop (Oc τ) (fx_157 x1 ρ) := by
  unfold fx_157
  simp (disch := omega) only [Oc_rd, Oc_up, Oc_fi, Oc_cp, gc_jop, jop_gc, jop_q, jop_i, jop_s, jop_n, jo_131, jo_127]
theorem jo_173_43 {τ : gb_S} (x2 : Int) (y0 : Int) (y1 : Int) (ρ : gb_S) : fx_173_43 x2 y0 y1 (Oc τ ρ) = jop (Oc τ) (fx_173_43 x2 y0 y1 ρ) := by
  unfold fx_173_43
  simp (disch := omega) only [Oc_rd, Oc_up, Oc_fi, Oc_cp, gc_jop, jop_gc, jop_q, jop_i, jop_s, jop_n, jo_128, jo_168]
theorem jo_173_21 {τ : gb_S} (x2 : Int) (y0 : Int) (ρ : gb_S) : fx_173_21 x2 y0 (Oc τ ρ) = jop (Oc τ) (fx_173_21 x2 y0 ρ) := by
  unfold fx_173_21
  simp (disch := omega) only [Oc_rd, Oc_up, Oc_fi, Oc_cp, gc_jop, jop_gc, jop_q, jop_i, jop_s, jop_n, jo_173_43]
theorem jo_173 {τ : gb_S} (x1 : Int) (x2 : Int) (ρ : gb_S) : fx_173 x1 x2 (Oc τ ρ) = jop (Oc τ) (fx_173 x1 x2 ρ) := by
  unfold fx_173
  simp (disch := omega) only [Oc_rd, Oc_up, Oc_fi, Oc_cp, gc_jop, jop_gc, jop_q, jop_i, jop_s, jop_n, jo_131, jo_173_21]
theorem jo_174 {τ : gb_S} (x1 : Int) (x2 : Int) (ρ : gb_S) : fx_174 x1 x2 (Oc τ ρ) = jop (Oc τ) (fx_174 x1 x2 ρ) := by
  unfold fx_174
  simp (disch := omega) only [Oc_rd, Oc_up, Oc_fi, Oc_cp, gc_jop, jop_gc, jop_q, jop_i, jop_s, jop_n, jo_173]
theorem jo_175 {τ : gb_S} (x1 : Int) (x2 : Int) (ρ : gb_S) : fx_175 x1 x2 (Oc τ ρ) = jop (Oc τ) (fx_175 x1 x2 ρ) := by
  unfold fx_175
  simp (disch := omega) only [Oc_rd, Oc_up, Oc_fi, Oc_cp, gc_jop, jop_gc, jop_q, jop_i, jop_s, jop_n, jo_173]
theorem jo_176 {τ : gb_S} (x1 : Int) (x2 : Int) (ρ : gb_S) : fx_176 x1 x2 (Oc τ ρ) = jop (Oc τ) (fx_176 x1 x2 ρ) := by
  unfold fx_176
  simp (disch := omega) only [Oc_rd, Oc_up, Oc_fi, Oc_cp, gc_jop, jop_gc, jop_q, jop_i, jop_s, jop_n, jo_174]
theorem jo_177 {τ : gb_S} (x1 : Int) (ρ : gb_S) : fx_177 x1 (Oc τ ρ) = jop (Oc τ) (fx_177 x1 ρ) := by
  unfold fx_177
  simp (disch := omega) only [Oc_rd, Oc_up, Oc_fi, Oc_cp, gc_jop, jop_gc, jop_q, jop_i, jop_s, jop_n, jo_173, jo_169]
theorem jo_178_113 {τ : gb_S} {k65 : Int → Int → Int → gb_S → Option gb_P} (hk65 : ∀ (z0 : Int) (z1 : Int) (z2 : Int) (ρ : gb_S), k65 z0 z1 z2 (Oc τ ρ) = jop (Oc τ) (k65 z0 z1 z2 ρ)) (x1 : Int) (x3 : Int) (y0 : Int) (y1 : Int) (ρ : gb_S) : fx_178_113 k65 x1 x3 y0 y1 (Oc τ ρ) = jop (Oc τ) (fx_178_113 k65 x1 x3 y0 y1 ρ) := by
  unfold fx_178_113
  simp (disch := omega) only [Oc_rd, Oc_up, Oc_fi, Oc_cp, gc_jop, jop_gc, jop_q, jop_i, jop_s, jop_n, hk65]
theorem jo_178_65 (k : Nat) {τ : gb_S} : ∀ (x1 : Int) (x2 : Int) (x3 : Int) (ρ : gb_S), fx_178_65 k x1 x2 x3 (Oc τ ρ) = jop (Oc τ) (fx_178_65 k x1 x2 x3 ρ) := by
  induction k with
  | zero => intros; rfl
  | succ k ih =>
    intro x1 x2 x3 ρ
    rw [fx_178_65, fx_178_65]
    simp (disch := omega) only [Oc_rd, Oc_up, Oc_fi, Oc_cp, gc_jop, jop_gc, jop_q, jop_i, jop_s, jop_n, ih, jo_171, (jo_178_113 ih)]
theorem jo_178_13 (k : Nat) {τ : gb_S} : ∀ (x1 : Int) (x2 : Int) (ρ : gb_S), fx_178_13 k x1 x2 (Oc τ ρ) = jop (Oc τ) (fx_178_13 k x1 x2 ρ) := by
  induction k with
  | zero => intros; rfl
  | succ k ih =>
    intro x1 x2 ρ
    rw [fx_178_13, fx_178_13]
    simp (disch := omega) only [Oc_rd, Oc_up, Oc_fi, Oc_cp, gc_jop, jop_gc, jop_q, jop_i, jop_s, jop_n, ih, (jo_178_65 _)]
theorem jo_178 {τ : gb_S} (x1 : Int) (ρ : gb_S) : fx_178 x1 (Oc τ ρ) = jop (Oc τ) (fx_178 x1 ρ) := by
  unfold fx_178
  simp (disch := omega) only [Oc_rd, Oc_up, Oc_fi, Oc_cp, gc_jop, jop_gc, jop_q, jop_i, jop_s, jop_n, jo_173, (jo_178_13 _)]
theorem jo_179 {τ : gb_S} (x1 : Int) (ρ : gb_S) : fx_179 x1 (Oc τ ρ) = jop (Oc τ) (fx_179 x1 ρ) := by
  unfold fx_179
  simp (disch := omega) only [Oc_rd, Oc_up, Oc_fi, Oc_cp, gc_jop, jop_gc, jop_q, jop_i, jop_s, jop_n, jo_131, jo_127]
theorem jo_185 {τ : gb_S} (x0 : Int) (x1 : Int) (ρ : gb_S) : fx_185 x0 x1 (Oc τ ρ) = jop (Oc τ) (fx_185 x0 x1 ρ) := by
  unfold fx_185
  simp (disch := omega) only [Oc_rd, Oc_up, Oc_fi, Oc_cp, gc_jop, jop_gc, jop_q, jop_i, jop_s, jop_n, jo_134, jo_126]
theorem jo_186_96 (k : Nat) {τ : gb_S} : ∀ (x1 : Int) (x2 : Int) (x3 : Int) (x7 : Int) (ρ : gb_S), fx_186_96 k x1 x2 x3 x7 (Oc τ ρ) = jop (Oc τ) (fx_186_96 k x1 x2 x3 x7 ρ) := by
  induction k with
  | zero => intros; rfl
  | succ k ih =>
    intro x1 x2 x3 x7 ρ
    rw [fx_186_96, fx_186_96]
    simp (disch := omega) only [Oc_rd, Oc_up, Oc_fi, Oc_cp, gc_jop, jop_gc, jop_q, jop_i, jop_s, jop_n, ih, jo_180]
theorem jo_186_78 {τ : gb_S} (x1 : Int) (x2 : Int) (x3 : Int) (x4 : Int) (x5 : Int) (x6 : Int) (ρ : gb_S) : fx_186_78 x1 x2 x3 x4 x5 x6 (Oc τ ρ) = jop (Oc τ) (fx_186_78 x1 x2 x3 x4 x5 x6 ρ) := by
  unfold fx_186_78
  simp (disch := omega) only [Oc_rd, Oc_up, Oc_fi, Oc_cp, gc_jop, jop_gc, jop_q, jop_i, jop_s, jop_n, jo_129, (jo_186_96 _)]
theorem jo_186_39 (k : Nat) {τ : gb_S} : ∀ (x1 : Int) (x2 : Int) (x3 : Int) (x4 : Int) (x5 : Int) (x6 : Int) (x7 : Int) (ρ : gb_S), fx_186_39 k x1 x2 x3 x4 x5 x6 x7 (Oc τ ρ) = jop (Oc τ) (fx_186_39 k x1 x2 x3 x4 x5 x6 x7 ρ) := by
  induction k with
  | zero => intros; rfl
  | succ k ih =>
    intro x1 x2 x3 x4 x5 x6 x7 ρ
    rw [fx_186_39, fx_186_39]
    simp (disch := omega) only [Oc_rd, Oc_up, Oc_fi, Oc_cp, gc_jop, jop_gc, jop_q, jop_i, jop_s, jop_n, jo_186_78, ih]
theorem jo_186 {τ : gb_S} (x1 : Int) (x2 : Int) (x3 : Int) (ρ : gb_S) : fx_186 x1 x2 x3 (Oc τ ρ) = jop (Oc τ) (fx_186 x1 x2 x3 ρ) := by
  unfold fx_186
  simp (disch := omega) only [Oc_rd, Oc_up, Oc_fi, Oc_cp, gc_jop, jop_gc, jop_q, jop_i, jop_s, jop_n, jo_131, jo_185, (jo_186_39 _)]
theorem jo_187_142 {τ : gb_S} (x1 : Int) (x2 : Int) (x3 : Int) (x4 : Int) (x7 : Int) (y0 : Int) (y1 : Int) (y2 : Int) (ρ : gb_S) : fx_187_142 x1 x2 x3 x4 x7 y0 y1 y2 (Oc τ ρ) = jop (Oc τ) (fx_187_142 x1 x2 x3 x4 x7 y0 y1 y2 ρ) := by
  unfold fx_187_142
  simp (disch := omega) only [Oc_rd, Oc_up, Oc_fi, Oc_cp, gc_jop, jop_gc, jop_q, jop_i, jop_s, jop_n, jo_129, jo_180]
theorem jo_187_98 {τ : gb_S} (x1 : Int) (x2 : Int) (x3 : Int) (x4 : Int) (x5 : Int) (x6 : Int) (x7 : Int) (ρ : gb_S) : fx_187_98 x1 x2 x3 x4 x5 x6 x7 (Oc τ ρ) = jop (Oc τ) (fx_187_98 x1 x2 x3 x4 x5 x6 x7 ρ) := by
  unfold fx_187_98
  simp (disch := omega) only [Oc_rd, Oc_up, Oc_fi, Oc_cp, gc_jop, jop_gc, jop_q, jop_i, jop_s, jop_n, jo_187_142]
theorem jo_187_64 (k : Nat) {τ : gb_S} : ∀ (x1 : Int) (x2 : Int) (x3 : Int) (x4 : Int) (x5 : Int) (x6 : Int) (x7 : Int) (x8 : Int) (ρ : gb_S), fx_187_64 k x1 x2 x3 x4 x5 x6 x7 x8 (Oc τ ρ) = jop (Oc τ) (fx_187_64 k x1 x2 x3 x4 x5 x6 x7 x8 ρ) := by
  induction k with
  | zero => intros; rfl
  | succ k ih =>
    intro x1 x2 x3 x4 x5 x6 x7 x8 ρ
    rw [fx_187_64, fx_187_64]
    simp (disch := omega) only [Oc_rd, Oc_up, Oc_fi, Oc_cp, gc_jop, jop_gc, jop_q, jop_i, jop_s, jop_n, ih, jo_187_98]
theorem jo_187_42 {τ : gb_S} (x1 : Int) (x2 : Int) (x3 : Int) (x4 : Int) (x5 : Int) (y0 : Int) (ρ : gb_S) : fx_187_42 x1 x2 x3 x4 x5 y0 (Oc τ ρ) = jop (Oc τ) (fx_187_42 x1 x2 x3 x4 x5 y0 ρ) := by
  unfold fx_187_42
  simp (disch := omega) only [Oc_rd, Oc_up, Oc_fi, Oc_cp, gc_jop, jop_gc, jop_q, jop_i, jop_s, jop_n, jo_187_98, jo_184, (jo_187_64 _)]
theorem jo_187_21 {τ : gb_S} (x1 : Int) (x2 : Int) (x3 : Int) (x4 : Int) (y0 : Int) (ρ : gb_S) : fx_187_21 x1 x2 x3 x4 y0 (Oc τ ρ) = jop (Oc τ) (fx_187_21 x1 x2 x3 x4 y0 ρ) := by
  unfold fx_187_21
  simp (disch := omega) only [Oc_rd, Oc_up, Oc_fi, Oc_cp, gc_jop, jop_gc, jop_q, jop_i, jop_s, jop_n, jo_187_42, jo_185]
theorem jo_187 {τ : gb_S} (x1 : Int) (x2 : Int) (x3 : Int) (x4 : Int) (ρ : gb_S) : fx_187 x1 x2 x3 x4 (Oc τ ρ) = jop (Oc τ) (fx_187 x1 x2 x3 x4 ρ) := by
  unfold fx_187
  simp (disch := omega) only [Oc_rd, Oc_up, Oc_fi, Oc_cp, gc_jop, jop_gc, jop_q, jop_i, jop_s, jop_n, jo_131, jo_187_21]
theorem jo_188 {τ : gb_S} (x1 : Int) (ρ : gb_S) : fx_188 x1 (Oc τ ρ) = jop (Oc τ) (fx_188 x1 ρ) := by
  unfold fx_188
  simp (disch := omega) only [Oc_rd, Oc_up, Oc_fi, Oc_cp, gc_jop, jop_gc, jop_q, jop_i, jop_s, jop_n, jo_134, jo_127, jo_184]
theorem jo_189 {τ : gb_S} (x1 : Int) (ρ : gb_S) : fx_189 x1 (Oc τ ρ) = jop (Oc τ) (fx_189 x1 ρ) := by
  unfold fx_189
  simp (disch := omega) only [Oc_rd, Oc_up, Oc_fi, Oc_cp, gc_jop, jop_gc, jop_q, jop_i, jop_s, jop_n, jo_188]
theorem jo_190 {τ : gb_S} (x1 : Int) (ρ : gb_S) : fx_190 x1 (Oc τ ρ) = jop (Oc τ) (fx_190 x1 ρ) := by
  unfold fx_190
  simp (disch := omega) only [Oc_rd, Oc_up, Oc_fi, Oc_cp, gc_jop, jop_gc, jop_q, jop_i, jop_s, jop_n, jo_131, jo_127, jo_184, jo_182]
theorem jo_191_8 (k : Nat) {τ : gb_S} : ∀ (x1 : Int) (x2 : Int) (ρ : gb_S), fx_191_8 k x1 x2 (Oc τ ρ) = jop (Oc τ) (fx_191_8 k x1 x2 ρ) := by
  induction k with
  | zero => intros; rfl
  | succ k ih =>
    intro x1 x2 ρ
    rw [fx_191_8, fx_191_8]
    simp (disch := omega) only [Oc_rd, Oc_up, Oc_fi, Oc_cp, gc_jop, jop_gc, jop_q, jop_i, jop_s, jop_n, ih, jo_130]
theorem jo_191 {τ : gb_S} (ρ : gb_S) : fx_191 (Oc τ ρ) = jop (Oc τ) (fx_191 ρ) := by
  unfold fx_191
  simp (disch := omega) only [Oc_rd, Oc_up, Oc_fi, Oc_cp, gc_jop, jop_gc, jop_q, jop_i, jop_s, jop_n, jo_184, (jo_191_8 _)]
theorem jo_192_103 {τ : gb_S} (x3 : Int) (x4 : Int) (ρ : gb_S) : fx_192_103 x3 x4 (Oc τ ρ) = jop (Oc τ) (fx_192_103 x3 x4 ρ) := by
  unfold fx_192_103
  simp (disch := omega) only [Oc_rd, Oc_up, Oc_fi, Oc_cp, gc_jop, jop_gc, jop_q, jop_i, jop_s, jop_n]
theorem jo_192_74 (k : Nat) {τ : gb_S} : ∀ (x1 : Int) (x3 : Int) (x4 : Int) (ρ : gb_S), fx_192_74 k x1 x3 x4 (Oc τ ρ) = jop (Oc τ) (fx_192_74 k x1 x3 x4 ρ) := by
  induction k with
  | zero => intros; rfl
  | succ k ih =>
    intro x1 x3 x4 ρ
    rw [fx_192_74, fx_192_74]
    simp (disch := omega) only [Oc_rd, Oc_up, Oc_fi, Oc_cp, gc_jop, jop_gc, jop_q, jop_i, jop_s, jop_n, ih, jo_192_103]
theorem jo_192_44 (k : Nat) {τ : gb_S} : ∀ (x1 : Int) (x3 : Int) (ρ : gb_S), fx_192_44 k x1 x3 (Oc τ ρ) = jop (Oc τ) (fx_192_44 k x1 x3 ρ) := by
  induction k with
  | zero => intros; rfl
  | succ k ih =>
    intro x1 x3 ρ
    rw [fx_192_44, fx_192_44]
    simp (disch := omega) only [Oc_rd, Oc_up, Oc_fi, Oc_cp, gc_jop, jop_gc, jop_q, jop_i, jop_s, jop_n, ih, (jo_192_74 _)]
theorem jo_192_34 {τ : gb_S} (x1 : Int) (y0 : Int) (y1 : Int) (ρ : gb_S) : fx_192_34 x1 y0 y1 (Oc τ ρ) = jop (Oc τ) (fx_192_34 x1 y0 y1 ρ) := by
  unfold fx_192_34
  simp (disch := omega) only [Oc_rd, Oc_up, Oc_fi, Oc_cp, gc_jop, jop_gc, jop_q, jop_i, jop_s, jop_n, jo_128, (jo_192_44 _)]
theorem jo_192_13 {τ : gb_S} (x1 : Int) (x2 : Int) (ρ : gb_S) : fx_192_13 x1 x2 (Oc τ ρ) = jop (Oc τ) (fx_192_13 x1 x2 ρ) := by
  unfold fx_192_13
  simp (disch := omega) only [Oc_rd, Oc_up, Oc_fi, Oc_cp, gc_jop, jop_gc, jop_q, jop_i, jop_s, jop_n, jo_192_34]
theorem jo_192 {τ : gb_S} (x1 : Int) (ρ : gb_S) : fx_192 x1 (Oc τ ρ) = jop (Oc τ) (fx_192 x1 ρ) := by
  unfold fx_192
  simp (disch := omega) only [Oc_rd, Oc_up, Oc_fi, Oc_cp, gc_jop, jop_gc, jop_q, jop_i, jop_s, jop_n, jo_134, jo_192_13, jo_184]
end JO
