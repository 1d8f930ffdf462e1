section BI1
/-- where the newborn stands in the row by age -/
def ipos (f : Nat → Int) (b : Nat → Int) (x : Int) : Nat → Nat
  | 0 => 0
  | q + 1 => if x < b (f q).toNat then ipos f b x q else q + 1
def irow (f : Nat → Int) (n pos i : Nat) : Int := if i < pos then f i else if i = pos then (n : Int) else f (i - 1)
theorem ipos_le {f b : Nat → Int} {x : Int} : ∀ q, ipos f b x q ≤ q := by
  intro q
  induction q with
  | zero => exact Nat.le_refl _
  | succ q ih => rw [ipos]; split <;> omega
theorem ipos_hi {f b : Nat → Int} {x : Int} : ∀ q i, ipos f b x q ≤ i → i < q → x < b (f i).toNat := by
  intro q
  induction q with
  | zero => intro i _ h; omega
  | succ q ih =>
    intro i h1 h2
    rw [ipos] at h1
    by_cases h : x < b (f q).toNat
    · rw [if_pos h] at h1
      by_cases hq : i = q
      · rw [hq]; exact h
      · exact ih i h1 (by omega)
    · rw [if_neg h] at h1; omega
theorem ipos_lo {f b : Nat → Int} {x : Int} : ∀ q, 0 < ipos f b x q → ¬ x < b (f (ipos f b x q - 1)).toNat := by
  intro q
  induction q with
  | zero => intro h; exact absurd h (Nat.lt_irrefl 0)
  | succ q ih =>
    rw [ipos]
    by_cases h : x < b (f q).toNat
    · rw [if_pos h]; exact ih
    · rw [if_neg h]; intro _; exact h
variable {σ σ' : gb_S} {c n nb nd : Nat} {P : pT} {ps : Nat → Nat} {De : Nat → dT} {Cf : Nat → List Nat}
theorem c22 {f b : Nat → Int} {x : Int} (hn : n < 14) (hx : 0 ≤ x ∧ x ≤ 2000) (hf : ∀ i, i < n → 0 ≤ f i ∧ f i < (n : Int)) (hb : ∀ p, p < n → 0 ≤ b p ∧ b p ≤ 2000) : ∀ (q k : Nat) (σ : gb_S), q ≤ n → q < k → (∀ i, i < q → σ 5 i = f i) → (∀ i, q < i → i ≤ n → σ 5 i = f (i - 1)) → (∀ p, p < n → σ 3 p = b p) → σ 2 3 = (n : Int) → ∃ σ', fx_22_28 k x (n : Int) (q : Int) σ = some (.inl (n : Int), σ') ∧ (∀ i, i ≤ n → σ' 5 i = irow f n (ipos f b x q) i) ∧ σ' 2 3 = (n : Int) + 1 ∧ (∀ j, j ≠ 3 → σ' 2 j = σ 2 j) ∧ ∀ c, c ≠ 5 → c ≠ 2 → σ' c = σ c := by
  have ins : ∀ (q : Nat) (σ : gb_S), q ≤ n → (∀ i, i < q → σ 5 i = f i) → (∀ i, q < i → i ≤ n → σ 5 i = f (i - 1)) → σ 2 3 = (n : Int) → ∃ σ', fx_22_68 (n : Int) (q : Int) σ = some (.inl (n : Int), σ') ∧ (∀ i, i ≤ n → σ' 5 i = irow f n q i) ∧ σ' 2 3 = (n : Int) + 1 ∧ (∀ j, j ≠ 3 → σ' 2 j = σ 2 j) ∧ ∀ c, c ≠ 5 → c ≠ 2 → σ' c = σ c := by
    intro q σ hq h1 h2 h3
    refine ⟨gb_up (gb_up σ 5 q (n : Int)) 2 3 ((n : Int) + 1), ?_, fun i hi => ?_, up_eq _ _ _ _, fun j hj => by rw [up_nj _ _ _ _ hj, up_ne _ _ _ _ (by omega)], fun c h1 h2 => by rw [up_ne _ _ _ _ h2, up_ne _ _ _ _ h1]⟩
    · unfold fx_22_68
      rw [gq_ix (by omega) (by omega), Int.toNat_natCast, up_ne _ _ _ _ (by omega), h3]
    · rw [up_ne _ _ _ _ (by omega)]
      unfold irow
      by_cases a : i < q
      · rw [if_pos a, up_nj _ _ _ _ (by omega)]; exact h1 i a
      · rw [if_neg a]
        by_cases e : i = q
        · rw [if_pos e, e, up_eq]
        · rw [if_neg e, up_nj _ _ _ _ e]; exact h2 i (by omega) hi
  intro q
  induction q with
  | zero =>
    intro k σ _ hk h1 h2 h3 h4
    obtain ⟨k, rfl⟩ : ∃ q, k = q + 1 := ⟨k - 1, by omega⟩
    rw [fx_22_28, gq_R (by omega) (by omega), if_neg (by omega)]
    exact ins 0 σ (by omega) h1 h2 h4
  | succ q ih =>
    intro k σ hq hk h1 h2 h3 h4
    obtain ⟨k, rfl⟩ : ∃ q, k = q + 1 := ⟨k - 1, by omega⟩
    have hfq := hf q (by omega)
    have hbq := hb (f q).toNat (by omega)
    have e25 : fx_25 (σ 5 q) σ = some (.inl (b (f q).toNat), σ) := by
      unfold fx_25
      rw [h1 q (by omega), gq_R (by omega) (by omega), if_neg (by omega), if_pos (by omega), gq_ix (by omega) (by omega), h3 _ (by omega)]
    rw [fx_22_28, gq_R (by omega) (by omega), if_pos (by omega), gq_ix (by omega) (by omega), show (((q + 1 : Nat) : Int) - 1).toNat = q by omega, e25, gc_v, gq_R (by omega) (by omega), gq_R (by omega) (by omega), ipos]
    by_cases h : x < b (f q).toNat
    · rw [if_pos h, if_pos h, gq_ix (by omega) (by omega), show ((q + 1 : Nat) : Int) + (-1) = (q : Int) by omega, Int.toNat_natCast]
      obtain ⟨σ', e, r1, r2, r3, r4⟩ := ih k (gb_up σ 5 (q + 1) (σ 5 q)) (by omega) (by omega) (fun i hi => by rw [up_nj _ _ _ _ (by omega)]; exact h1 i (by omega)) (fun i hi1 hi2 => by
        by_cases e : i = q + 1
        · rw [e, up_eq, show q + 1 - 1 = q by omega]; exact h1 q (by omega)
        · rw [up_nj _ _ _ _ e]; exact h2 i (by omega) hi2) (fun p hp => by rw [up_ne _ _ _ _ (by omega)]; exact h3 p hp) (by rw [up_ne _ _ _ _ (by omega)]; exact h4)
      exact ⟨σ', e, r1, r2, fun j hj => by rw [r3 j hj, up_ne _ _ _ _ (by omega)], fun c hc1 hc2 => by rw [r4 c hc1 hc2, up_ne _ _ _ _ hc1]⟩
    · rw [if_neg h, if_neg h]
      exact ins (q + 1) σ hq h1 h2 h4
theorem r137 {f b : Nat → Int} {x : Int} (hn : n < 14) (hx : 0 ≤ x ∧ x ≤ 2000) (hf : ∀ i, i < n → 0 ≤ f i ∧ f i < (n : Int)) (hb : ∀ p, p < n → 0 ≤ b p ∧ b p ≤ 2000) : ∀ (q k : Nat) (σ : gb_S), q ≤ n → q < k → (∀ i, i < q → σ 210 i = f i) → (∀ i, q < i → i ≤ n → σ 210 i = f (i - 1)) → (∀ p, p < n → σ 188 p = b p) → σ 187 3 = (n : Int) → ∃ σ', fx_137_57 k x (q : Int) σ = some (.inl (n : Int), σ') ∧ (∀ i, i ≤ n → σ' 210 i = irow f n (ipos f b x q) i) ∧ σ' 187 3 = (n : Int) + 1 ∧ σ' 187 29 = 1 ∧ (∀ j, j ≠ 3 → j ≠ 29 → σ' 187 j = σ 187 j) ∧ ∀ c, c ≠ 210 → c ≠ 187 → σ' c = σ c := by
  have ins : ∀ (q : Nat) (σ : gb_S), q ≤ n → (∀ i, i < q → σ 210 i = f i) → (∀ i, q < i → i ≤ n → σ 210 i = f (i - 1)) → σ 187 3 = (n : Int) → ∃ σ', fx_137_98 (q : Int) σ = some (.inl (n : Int), σ') ∧ (∀ i, i ≤ n → σ' 210 i = irow f n q i) ∧ σ' 187 3 = (n : Int) + 1 ∧ σ' 187 29 = 1 ∧ (∀ j, j ≠ 3 → j ≠ 29 → σ' 187 j = σ 187 j) ∧ ∀ c, c ≠ 210 → c ≠ 187 → σ' c = σ c := by
    intro q σ hq h1 h2 h3
    refine ⟨gb_up (gb_up (gb_up σ 210 q (n : Int)) 187 3 ((n : Int) + 1)) 187 29 1, ?_, fun i hi => ?_, by rw [up_nj _ _ _ _ (by omega), up_eq], up_eq _ _ _ _, fun j hj1 hj2 => by rw [up_nj _ _ _ _ hj2, up_nj _ _ _ _ hj1, up_ne _ _ _ _ (by omega)], fun c h1 h2 => by rw [up_ne _ _ _ _ h2, up_ne _ _ _ _ h2, up_ne _ _ _ _ h1]⟩
    · unfold fx_137_98
      rw [gq_ix (by omega) (by omega), Int.toNat_natCast, h3, up_ne _ _ _ _ (by omega : (187 : Nat) ≠ 210), h3, up_nj _ _ _ _ (by omega : (3 : Nat) ≠ 29), up_eq, Int.add_sub_cancel]
    · rw [up_ne _ _ _ _ (by omega), up_ne _ _ _ _ (by omega)]
      unfold irow
      by_cases a : i < q
      · rw [if_pos a, up_nj _ _ _ _ (by omega)]; exact h1 i a
      · rw [if_neg a]
        by_cases e : i = q
        · rw [if_pos e, e, up_eq]
        · rw [if_neg e, up_nj _ _ _ _ e]; exact h2 i (by omega) hi
  intro q
  induction q with
  | zero =>
    intro k σ _ hk h1 h2 h3 h4
    obtain ⟨k, rfl⟩ : ∃ q, k = q + 1 := ⟨k - 1, by omega⟩
    rw [fx_137_57, gq_R (by omega) (by omega), if_neg (by omega)]
    exact ins 0 σ (by omega) h1 h2 h4
  | succ q ih =>
    intro k σ hq hk h1 h2 h3 h4
    obtain ⟨k, rfl⟩ : ∃ q, k = q + 1 := ⟨k - 1, by omega⟩
    have hfq := hf q (by omega)
    have hbq := hb (f q).toNat (by omega)
    rw [fx_137_57, gq_R (by omega) (by omega), if_pos (by omega), gq_ix (by omega) (by omega), show (((q + 1 : Nat) : Int) - 1).toNat = q by omega, h1 q (by omega), gq_ix (by omega) (by omega), h3 _ (by omega), gq_R (by omega) (by omega), gq_R (by omega) (by omega), ipos]
    by_cases h : x < b (f q).toNat
    · rw [if_pos h, if_pos h, gq_ix (by omega) (by omega), show ((q + 1 : Nat) : Int) + (-1) = (q : Int) by omega, Int.toNat_natCast]
      obtain ⟨σ', e, r1, r2, r3, r4, r5⟩ := ih k (gb_up σ 210 (q + 1) (f q)) (by omega) (by omega) (fun i hi => by rw [up_nj _ _ _ _ (by omega)]; exact h1 i (by omega)) (fun i hi1 hi2 => by
        by_cases e : i = q + 1
        · rw [e, up_eq, show q + 1 - 1 = q by omega]
        · rw [up_nj _ _ _ _ e]; exact h2 i (by omega) hi2) (fun p hp => by rw [up_ne _ _ _ _ (by omega)]; exact h3 p hp) (by rw [up_ne _ _ _ _ (by omega)]; exact h4)
      exact ⟨σ', e, r1, r2, r3, fun j hj1 hj2 => by rw [r4 j hj1 hj2, up_ne _ _ _ _ (by omega)], fun c hc1 hc2 => by rw [r5 c hc1 hc2, up_ne _ _ _ _ hc1]⟩
    · rw [if_neg h, if_neg h]
      exact ins (q + 1) σ hq h1 h2 h4
theorem TP_ext (hb : RB σ n nb P ps) : TP (n + 1) P = TP n P := by
  funext q k
  unfold TP
  by_cases h1 : F1 P k = (q : Int)
  · have := F1_mem hb h1
    rw [decide_eq_true (show q < n + 1 by omega), decide_eq_true (show k < n + 1 by omega), decide_eq_true this.1, decide_eq_true this.2.1]
  · by_cases h2 : F2 P k = (q : Int)
    · have := F2_mem hb h2
      rw [decide_eq_true (show q < n + 1 by omega), decide_eq_true (show k < n + 1 by omega), decide_eq_true this.1, decide_eq_true this.2.1]
    · rw [decide_eq_false h1, decide_eq_false h2]
      simp
/-- the row with the newborn is a row by age, and its places -/
theorem irow_ok {f b : Nat → Int} {x : Int} (hf : ∀ i, i < n → 0 ≤ f i ∧ (f i).toNat < n ∧ ps (f i).toNat = i) (hp : ∀ p, p < n → ps p < n ∧ (f (ps p)).toNat = p) (hs : ∀ i j, i < j → j < n → b (f i).toNat ≤ b (f j).toNat) (hbn : b n = x) : (∀ i, i < n + 1 → 0 ≤ irow f n (ipos f b x n) i ∧ (irow f n (ipos f b x n) i).toNat < n + 1 ∧ (if (irow f n (ipos f b x n) i).toNat = n then ipos f b x n else if ps (irow f n (ipos f b x n) i).toNat < ipos f b x n then ps (irow f n (ipos f b x n) i).toNat else ps (irow f n (ipos f b x n) i).toNat + 1) = i) ∧ (∀ p, p < n + 1 → (if p = n then ipos f b x n else if ps p < ipos f b x n then ps p else ps p + 1) < n + 1 ∧ (irow f n (ipos f b x n) (if p = n then ipos f b x n else if ps p < ipos f b x n then ps p else ps p + 1)).toNat = p) ∧ (∀ i j, i < j → j < n + 1 → b (irow f n (ipos f b x n) i).toNat ≤ b (irow f n (ipos f b x n) j).toNat) := by
  have hle := ipos_le (f := f) (b := b) (x := x) n
  have hhi := ipos_hi (f := f) (b := b) (x := x) n
  have hlo := ipos_lo (f := f) (b := b) (x := x) n
  generalize ipos f b x n = pos at hle hhi hlo ⊢
  have hlow : ∀ i, i < pos → b (f i).toNat ≤ x := fun i hi => by
    have h1 := hlo (by omega)
    by_cases h : i = pos - 1
    · rw [h]; omega
    · have := hs i (pos - 1) (by omega) (by omega); omega
  have v : ∀ i, i < n + 1 → (i < pos ∧ irow f n pos i = f i) ∨ (i = pos ∧ irow f n pos i = (n : Int)) ∨ (pos < i ∧ irow f n pos i = f (i - 1)) := fun i _ => by
    unfold irow
    by_cases h : i < pos
    · exact Or.inl ⟨h, if_pos h⟩
    · by_cases h2 : i = pos
      · exact Or.inr (Or.inl ⟨h2, by rw [if_neg h, if_pos h2]⟩)
      · exact Or.inr (Or.inr ⟨by omega, by rw [if_neg h, if_neg h2]⟩)
  refine ⟨fun i hi => ?_, fun p hpp => ?_, fun i j hij hj => ?_⟩
  · rcases v i hi with ⟨h, e⟩ | ⟨h, e⟩ | ⟨h, e⟩
    · have := hf i (by omega)
      rw [e]
      refine ⟨this.1, by omega, ?_⟩
      rw [if_neg (by omega), this.2.2, if_pos h]
    · rw [e, Int.toNat_natCast, if_pos rfl]
      exact ⟨by omega, by omega, h.symm⟩
    · have := hf (i - 1) (by omega)
      rw [e]
      refine ⟨this.1, by omega, ?_⟩
      rw [if_neg (by omega), this.2.2, if_neg (by omega)]
      omega
  · by_cases hpn : p = n
    · rw [if_pos hpn]
      refine ⟨by omega, ?_⟩
      unfold irow
      rw [if_neg (by omega), if_pos rfl, hpn, Int.toNat_natCast]
    · have := hp p (by omega)
      rw [if_neg hpn]
      by_cases hq : ps p < pos
      · rw [if_pos hq]
        refine ⟨by omega, ?_⟩
        unfold irow
        rw [if_pos hq]
        exact this.2
      · rw [if_neg hq]
        refine ⟨by omega, ?_⟩
        unfold irow
        rw [if_neg (by omega), if_neg (by omega), show ps p + 1 - 1 = ps p by omega]
        exact this.2
  · rcases v i (by omega) with ⟨h, e⟩ | ⟨h, e⟩ | ⟨h, e⟩
    · rcases v j hj with ⟨h2, e2⟩ | ⟨h2, e2⟩ | ⟨h2, e2⟩
      · rw [e, e2]; exact hs i j hij (by omega)
      · rw [e, e2, Int.toNat_natCast, hbn]; exact hlow i h
      · rw [e, e2]
        have := hhi (j - 1) (by omega) (by omega)
        have := hlow i h
        omega
    · rcases v j hj with ⟨h2, e2⟩ | ⟨h2, e2⟩ | ⟨h2, e2⟩
      · omega
      · omega
      · rw [e, e2, Int.toNat_natCast, hbn]
        have := hhi (j - 1) (by omega) (by omega)
        omega
    · rcases v j hj with ⟨h2, e2⟩ | ⟨h2, e2⟩ | ⟨h2, e2⟩
      · omega
      · omega
      · rw [e, e2]; exact hs (i - 1) (j - 1) (by omega) (by omega)
end BI1
