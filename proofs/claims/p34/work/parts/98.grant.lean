section GR1
variable {σ σ' : gb_S} {c n nb nd : Nat} {P : pT} {ps : Nat → Nat} {De : Nat → dT} {Cf : Nat → List Nat}
/-- none of the last m units ahead of b is taken -/
def frB (f : Nat → Int) (b : Nat) : Nat → Bool
  | 0 => true
  | m + 1 => decide (f (b - (m + 1)) = 0) && frB f b m
theorem frB_iff {f : Nat → Int} {b : Nat} : ∀ {m : Nat}, m ≤ b → (frB f b m = true ↔ ∀ u, b - m ≤ u → u < b → f u = 0) := by
  intro m
  induction m with
  | zero => intro _; exact ⟨fun _ u h1 h2 => by omega, fun _ => rfl⟩
  | succ m ih =>
    intro hm
    rw [frB, Bool.and_eq_true, decide_eq_true_eq, ih (by omega)]
    constructor
    · rintro ⟨h1, h2⟩ u h3 h4
      by_cases h : u = b - (m + 1)
      · rw [h]; exact h1
      · exact h2 u (by omega) h4
    · intro h
      exact ⟨h _ (Nat.le_refl _) (by omega), fun u h1 h2 => h u (by omega) h2⟩
theorem frB_congr {f g : Nat → Int} {b : Nat} : ∀ {m : Nat}, m ≤ b → (∀ u, u < b → f u = g u) → frB f b m = frB g b m := by
  intro m
  induction m with
  | zero => intro _ _; rfl
  | succ m ih => intro hm h; rw [frB, frB, h _ (by omega), ih (by omega) h]
theorem c41 {a b : Nat} (hab : a < b) (hb : b ≤ 60) (hv : ∀ u, u < 60 → σ 36 u = 0 ∨ σ 36 u = 1) : fx_41 (a : Int) (b : Int) σ = some (.inl (ib (!frB (σ 36) b (b - a))), σ) := by
  have key : ∀ (m f : Nat), m ≤ b → m < f → fx_41_6 f (b : Int) ((b - m : Nat) : Int) σ = some (.inl (ib (!frB (σ 36) b m)), σ) := by
    intro m
    induction m with
    | zero =>
      intro f _ hf
      obtain ⟨f, rfl⟩ : ∃ q, f = q + 1 := ⟨f - 1, by omega⟩
      rw [fx_41_6, gq_R (by omega) (by omega), gq_R (by omega) (by omega), if_neg (by omega)]
      rfl
    | succ m ih =>
      intro f hm hf
      obtain ⟨f, rfl⟩ : ∃ q, f = q + 1 := ⟨f - 1, by omega⟩
      have ihk := ih f (by omega) (by omega)
      have hvu := hv (b - (m + 1)) (by omega)
      rw [fx_41_6, gq_R (by omega) (by omega), gq_R (by omega) (by omega), if_pos (by omega), if_pos (by omega), gq_ix (by omega) (by omega), Int.toNat_natCast, gq_R (by omega) (by omega), frB, show ((b - (m + 1) : Nat) : Int) + 1 = ((b - m : Nat) : Int) by omega]
      by_cases h : σ 36 (b - (m + 1)) = 0
      · rw [if_pos h, decide_eq_true h, Bool.true_and]; exact ihk
      · rw [if_neg h, decide_eq_false h, Bool.false_and]; rfl
  unfold fx_41
  have := key (b - a) gFU (by omega) (by unfold gFU; omega)
  rw [show b - (b - a) = a by omega] at this
  rw [gq_R (by omega) (by omega), show max ((a : Nat) : Int) 0 = (a : Int) by omega, this]
theorem r185 {x y : Int} (h1 : -2147483648 ≤ x ∧ x ≤ 2147483647) (h2 : -2147483648 ≤ y ∧ y ≤ 2147483647) : fx_185 x y σ = some (.inl (ib (decide (0 ≤ x ∧ x < y ∧ y ≤ 60))), σ) := by
  unfold fx_185
  rw [i134 h1, gc_v, gq_R (ibR _).1 (ibR _).2]
  by_cases h : 0 ≤ x ∧ x < 60
  · rw [decide_eq_true h, ibT, if_neg (by decide), i126 h2 (by omega) (by omega), gc_v, gq_R (ibR _).1 (ibR _).2]
    by_cases h3 : x + 1 ≤ y ∧ y ≤ 60
    · rw [decide_eq_true h3, decide_eq_true (by omega), ibT, if_neg (by decide)]
    · rw [decide_eq_false h3, decide_eq_false (by omega), ibF, if_pos rfl]
  · rw [decide_eq_false h, decide_eq_false (by omega), ibF, if_pos rfl]
theorem r186l {x1 x2 x4 : Int} {b : Nat} (hb : b ≤ 60) (hv : ∀ u, u < 60 → σ 209 u = 0 ∨ σ 209 u = 1) : ∀ (m f : Nat) (b6 : Bool), m ≤ b → m < f → fx_186_39 f x1 x2 (b : Int) x4 1 (ib b6) ((b - m : Nat) : Int) σ = fx_186_78 x1 x2 (b : Int) x4 1 (ib (b6 && frB (σ 209) b m)) σ := by
  intro m
  induction m with
  | zero =>
    intro f b6 _ hf
    obtain ⟨f, rfl⟩ : ∃ q, f = q + 1 := ⟨f - 1, by omega⟩
    rw [fx_186_39, gq_R (by omega) (by omega), if_neg (by decide), gq_R (by omega) (by omega), gq_R (by omega) (by omega), if_neg (by omega), frB, Bool.and_true]
  | succ m ih =>
    intro f b6 hm hf
    obtain ⟨f, rfl⟩ : ∃ q, f = q + 1 := ⟨f - 1, by omega⟩
    have ih := fun b6 => ih f b6 (by omega) (by omega)
    have hvu := hv (b - (m + 1)) (by omega)
    rw [fx_186_39, gq_R (by omega) (by omega), if_neg (by decide), gq_R (by omega) (by omega), gq_R (by omega) (by omega), if_pos (by omega), gq_R (ibR _).1 (ibR _).2, frB, show ((b - (m + 1) : Nat) : Int) + 1 = ((b - m : Nat) : Int) by omega]
    cases b6 with
    | false =>
      rw [ibF, if_pos rfl]
      have := ih false
      rw [ibF] at this
      rw [this, Bool.false_and, Bool.false_and]
    | true =>
      rw [ibT, if_neg (by decide), gq_ix (by omega) (by omega), Int.toNat_natCast, gq_R (by omega) (by omega), Bool.true_and]
      by_cases h : σ 209 (b - (m + 1)) = 0
      · have := ih true
        rw [ibT, Bool.true_and] at this
        rw [if_pos h, this, decide_eq_true h, Bool.true_and]
      · have := ih false
        rw [ibF, Bool.false_and] at this
        rw [if_neg h, this, decide_eq_false h, Bool.false_and]
/-- the reference's way through a grant's conditions -/
theorem r186 {x y z : Int} (h1 : -2147483648 ≤ x ∧ x ≤ 2147483647) (h2 : -2147483648 ≤ y ∧ y ≤ 2147483647) (h3 : -2147483648 ≤ z ∧ z ≤ 2147483647) (hb : RB σ n nb P ps) (hv : ∀ u, u < 60 → σ 209 u = 0 ∨ σ 209 u = 1) : ∀ b1 b2 : Bool, b1 = decide (0 ≤ x ∧ x < (n : Int)) → b2 = decide (0 ≤ y ∧ y < z ∧ z ≤ 60) → ∃ b3 : Bool, fx_186 x y z σ = fx_186_78 x y z (ib b1) (ib b2) (ib b3) σ ∧ (b1 = true → b2 = true → b3 = (decide (σ 189 x.toNat = -1) && frB (σ 209) z.toNat (z.toNat - y.toNat))) := by
  intro b1 b2 hb1 hb2
  have hn := hb.1
  have e0 : ∀ x4 x6 : Int, fx_186_39 gFU x y z x4 0 x6 y σ = fx_186_78 x y z x4 0 x6 σ := fun x4 x6 => by
    rw [show gFU = (gFU - 1) + 1 from rfl, fx_186_39, gq_R (by omega) (by omega), if_pos rfl]
  unfold fx_186
  rw [i131 h1 hn hb.2.1, gc_v, r185 h2 h3, gc_v, ← hb1, ← hb2, gq_R (ibR _).1 (ibR _).2]
  cases b2 with
  | false =>
    cases b1 with
    | false => exact ⟨false, by rw [ibF, if_pos rfl, e0], fun h => by cases h⟩
    | true =>
      rw [eq_comm, decide_eq_true_eq] at hb1
      have h9 := (hb.2.2.2.2.2.2.2.2.1 x.toNat (by omega)).2
      refine ⟨decide (σ 189 x.toNat = -1), ?_, fun _ h => by cases h⟩
      rw [ibT, ibF, if_neg (by decide), gq_ix (by omega) (by omega), gq_R (by omega) (by omega), e0, e0]
      by_cases h : σ 189 x.toNat = -1
      · rw [if_pos h, decide_eq_true h, ibT]
      · rw [if_neg h, decide_eq_false h, ibF]
  | true =>
    rw [eq_comm, decide_eq_true_eq] at hb2
    have hl := fun (x4 : Int) (b6 : Bool) => r186l (σ := σ) (x1 := x) (x2 := y) (x4 := x4) (b := z.toNat) (by omega) hv (z.toNat - y.toNat) gFU b6 (by omega) (by unfold gFU; omega)
    have ez : ((z.toNat : Nat) : Int) = z := by omega
    have ey : ((z.toNat - (z.toNat - y.toNat) : Nat) : Int) = y := by omega
    rw [ez, ey] at hl
    cases b1 with
    | false =>
      refine ⟨false, ?_, fun h => by cases h⟩
      have := hl 0 false
      rw [ibF, Bool.false_and, ibF] at this
      rw [ibF, ibT, if_pos rfl, this]
    | true =>
      rw [eq_comm, decide_eq_true_eq] at hb1
      have h9 := (hb.2.2.2.2.2.2.2.2.1 x.toNat (by omega)).2
      refine ⟨_, ?_, fun _ _ => rfl⟩
      rw [ibT, if_neg (by decide), gq_ix (by omega) (by omega), gq_R (by omega) (by omega)]
      by_cases h : σ 189 x.toNat = -1
      · have := hl 1 true
        rw [ibT] at this
        rw [if_pos h, decide_eq_true h, this]
      · have := hl 1 false
        rw [ibF, Bool.false_and] at this
        rw [if_neg h, decide_eq_false h, Bool.false_and, this]
theorem r186f {x y z t : Int} {b1 b2 b3 : Bool} (h : (b1 && (b2 && b3)) = false) (ht : (if b1 = true then (if b2 = true then (if b3 = true then (0 : Int) else 3) else 2) else 1) = t) (hst : ST σ n P) (e : fx_186 x y z σ = fx_186_78 x y z (ib b1) (ib b2) (ib b3) σ) : RQ (fx_186 x y z) t 0 n P σ := by
  refine ⟨gb_up σ 187 43 t, ?_, up43_SC t, up43_ST t hst, up_eq _ _ _ _, up_ne _ _ _ _ (by omega)⟩
  rw [e]
  unfold fx_186_78
  rw [i129, gc_v, h, ht]
  exact (gq_R (by decide) (by decide)).trans (if_pos rfl)
/-- the units are marked as granted -/
theorem c45 {x1 x2 : Int} {a b : Nat} (hb : b ≤ 60) (hab : a < b) : ∀ (m f : Nat) (σ : gb_S), m ≤ b - a → m < f → ∃ s, fx_45_7 f x1 x2 (b : Int) ((b - m : Nat) : Int) σ = fx_45_34 x1 x2 (b : Int) s ∧ (∀ u, s 36 u = if b - m ≤ u ∧ u < b then 1 else σ 36 u) ∧ ∀ c, c ≠ 36 → s c = σ c := by
  intro m
  induction m with
  | zero =>
    intro f σ _ hf
    obtain ⟨f, rfl⟩ : ∃ q, f = q + 1 := ⟨f - 1, by omega⟩
    refine ⟨σ, ?_, fun u => by rw [if_neg (by omega)], fun _ _ => rfl⟩
    rw [fx_45_7, gq_R (by omega) (by omega), gq_R (by omega) (by omega), if_neg (by omega)]
  | succ m ih =>
    intro f σ hm hf
    obtain ⟨f, rfl⟩ : ∃ q, f = q + 1 := ⟨f - 1, by omega⟩
    obtain ⟨s, e, r1, r2⟩ := ih f (gb_up σ 36 (b - (m + 1)) 1) (by omega) (by omega)
    refine ⟨s, ?_, fun u => ?_, fun c hc => by rw [r2 c hc, up_ne _ _ _ _ hc]⟩
    · rw [fx_45_7, gq_R (by omega) (by omega), gq_R (by omega) (by omega), if_pos (by omega), if_pos (by omega), gq_ix (by omega) (by omega), Int.toNat_natCast, show ((b - (m + 1) : Nat) : Int) + 1 = ((b - m : Nat) : Int) by omega, e]
    · rw [r1 u]
      by_cases h : u = b - (m + 1)
      · rw [if_neg (by omega), h, up_eq, if_pos (by omega)]
      · rw [up_nj _ _ _ _ h]
        by_cases h2 : b - m ≤ u ∧ u < b
        · rw [if_pos h2, if_pos (by omega)]
        · rw [if_neg h2, if_neg (by omega)]
theorem r186m {x1 x2 : Int} {a b : Nat} (hb : b ≤ 60) (hab : a < b) : ∀ (m f : Nat) (σ : gb_S), m ≤ b - a → m < f → ∃ s, fx_186_96 f x1 x2 (b : Int) ((b - m : Nat) : Int) σ = gc (fx_180 0 x1 (-1) x2 (b : Int) s) (fun _ s4 => some (.inl ((b : Int) - x2), s4)) ∧ (∀ u, s 209 u = if b - m ≤ u ∧ u < b then 1 else σ 209 u) ∧ ∀ c, c ≠ 209 → s c = σ c := by
  intro m
  induction m with
  | zero =>
    intro f σ _ hf
    obtain ⟨f, rfl⟩ : ∃ q, f = q + 1 := ⟨f - 1, by omega⟩
    refine ⟨σ, ?_, fun u => by rw [if_neg (by omega)], fun _ _ => rfl⟩
    rw [fx_186_96, gq_R (by omega) (by omega), gq_R (by omega) (by omega), if_neg (by omega)]
  | succ m ih =>
    intro f σ hm hf
    obtain ⟨f, rfl⟩ : ∃ q, f = q + 1 := ⟨f - 1, by omega⟩
    obtain ⟨s, e, r1, r2⟩ := ih f (gb_up σ 209 (b - (m + 1)) 1) (by omega) (by omega)
    refine ⟨s, ?_, fun u => ?_, fun c hc => by rw [r2 c hc, up_ne _ _ _ _ hc]⟩
    · rw [fx_186_96, gq_R (by omega) (by omega), gq_R (by omega) (by omega), if_pos (by omega), gq_ix (by omega) (by omega), Int.toNat_natCast, show ((b - (m + 1) : Nat) : Int) + 1 = ((b - m : Nat) : Int) by omega, e]
    · rw [r1 u]
      by_cases h : u = b - (m + 1)
      · rw [if_neg (by omega), h, up_eq, if_pos (by omega)]
      · rw [up_nj _ _ _ _ h]
        by_cases h2 : b - m ≤ u ∧ u < b
        · rw [if_pos h2, if_pos (by omega)]
        · rw [if_neg h2, if_neg (by omega)]
theorem ct_more {b b' : Nat → Bool} {m u : Nat} (h : ∀ i, i < m → b i = true → b' i = true) (hu : u < m) (h1 : b u = false) (h2 : b' u = true) : ct b m + 1 ≤ ct b' m := by
  induction m with
  | zero => omega
  | succ m ih =>
    rw [ct, ct]
    by_cases hm : u = m
    · subst hm
      have := ct_mono (b := b) (c := b') (m := u) (fun i hi hb => h i (by omega) hb)
      rw [h1, h2, if_neg (by decide), if_pos rfl]
      omega
    · have := ih (fun i hi hb => h i (by omega) hb) (by omega)
      have h3 := h m (by omega)
      cases hb : b m with
      | false => rw [if_neg (by decide)]; split <;> omega
      | true => rw [h3 hb]; omega
end GR1
