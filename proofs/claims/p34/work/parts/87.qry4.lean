section QD1
def pst (f : Nat → Int) (x : Nat) : Nat → Nat
  | 0 => 0
  | q + 1 => if f q = f x then pst f x q else q + 1
def pen (f : Nat → Int) (x : Nat) : Nat → Nat
  | 0 => 60
  | m + 1 => if f (60 - (m + 1)) = f x then pen f x m else 60 - (m + 1)
theorem pst_le (f : Nat → Int) (x q : Nat) : pst f x q ≤ q := by
  induction q with
  | zero => exact Nat.le_refl _
  | succ q ih => rw [pst]; split <;> omega
theorem pen_le (f : Nat → Int) (x m : Nat) : pen f x m ≤ 60 := by
  induction m with
  | zero => exact Nat.le_refl _
  | succ m ih => rw [pen]; split <;> omega
theorem pst_eq (f : Nat → Int) (u : Nat) : (pst f u u = u) = (u = 0 ∨ ¬ f (u - 1) = f u) := by
  cases u with
  | zero => simp [pst]
  | succ q =>
    have := pst_le f (q + 1) q
    rw [pst, show q + 1 - 1 = q by omega]
    split
    · rename_i h
      apply propext
      constructor
      · intro h2; omega
      · intro h2
        rcases h2 with h2 | h2
        · omega
        · exact absurd h h2
    · rename_i h
      simp [h]
variable {c : Nat} {σ : gb_S} {n nb nd : Nat} {P : pT} {ps : Nat → Nat} {De : Nat → dT} {Cf : Nat → List Nat}
theorem c43 (hb : ∀ u, u < 60 → -1 ≤ σ 37 u ∧ σ 37 u < 14) {x : Nat} (hx : x < 60) : fx_43 (x : Int) σ = some (.inl ((pst (σ 37) x x : Nat) : Int), σ) := by
  have key : ∀ (q f : Nat), q ≤ x → q < f → fx_43_2 f (x : Int) (q : Int) σ = some (.inl ((pst (σ 37) x q : Nat) : Int), σ) := by
    intro q
    induction q with
    | zero =>
      intro f _ hf
      obtain ⟨f, rfl⟩ : ∃ q, f = q + 1 := ⟨f - 1, by omega⟩
      rw [fx_43_2, gq_R (by omega) (by omega), if_neg (by omega)]
      rfl
    | succ q ih =>
      intro f hq hf
      obtain ⟨f, rfl⟩ : ∃ q, f = q + 1 := ⟨f - 1, by omega⟩
      have b1 := hb q (by omega)
      have b2 := hb x hx
      rw [fx_43_2, gq_R (by omega) (by omega), if_pos (by omega), show ((q + 1 : Nat) : Int) - 1 = (q : Int) by omega, c40 (by omega), gc_v, c40 hx, gc_v, gq_R (by omega) (by omega), gq_R (by omega) (by omega), pst]
      by_cases h : σ 37 q = σ 37 x
      · rw [if_pos h, if_pos h, show ((q + 1 : Nat) : Int) + (-1) = (q : Int) by omega]
        exact ih f (by omega) (by omega)
      · rw [if_neg h, if_neg h]
  exact key x gFU (Nat.le_refl _) (by unfold gFU; omega)
theorem c44 (hb : ∀ u, u < 60 → -1 ≤ σ 37 u ∧ σ 37 u < 14) {x : Nat} (hx : x < 60) : fx_44 (x : Int) σ = some (.inl ((pen (σ 37) x (60 - x) : Nat) : Int), σ) := by
  have key : ∀ (m f : Nat), m ≤ 60 → m < f → fx_44_4 f (x : Int) ((60 - m : Nat) : Int) σ = some (.inl ((pen (σ 37) x m : Nat) : Int), σ) := by
    intro q
    induction q with
    | zero =>
      intro f _ hf
      obtain ⟨f, rfl⟩ : ∃ q, f = q + 1 := ⟨f - 1, by omega⟩
      rw [fx_44_4, gq_R (by omega) (by omega), if_neg (by omega)]
      rfl
    | succ q ih =>
      intro f hq hf
      obtain ⟨f, rfl⟩ : ∃ q, f = q + 1 := ⟨f - 1, by omega⟩
      have b1 := hb (60 - (q + 1)) (by omega)
      have b2 := hb x hx
      rw [fx_44_4, gq_R (by omega) (by omega), if_pos (by omega), c40 (by omega), gc_v, c40 hx, gc_v, gq_R (by omega) (by omega), gq_R (by omega) (by omega), pen]
      by_cases h : σ 37 (60 - (q + 1)) = σ 37 x
      · rw [if_pos h, if_pos h, show ((60 - (q + 1) : Nat) : Int) + 1 = ((60 - q : Nat) : Int) by omega]
        exact ih f (by omega) (by omega)
      · rw [if_neg h, if_neg h]
  unfold fx_44
  have := key (60 - (x + 1)) gFU (by omega) (by unfold gFU; omega)
  rw [show ((60 - (60 - (x + 1)) : Nat) : Int) = (x : Int) + 1 by omega] at this
  rw [this, show 60 - x = (60 - (x + 1)) + 1 by omega, pen, show 60 - (60 - (x + 1) + 1) = x by omega, if_pos rfl]
/-- the reference's way to the same bounds -/
theorem r192 {s : gb_S} (hb : ∀ u, u < 60 → -1 ≤ s 222 u ∧ s 222 u < 14) {x : Nat} (hx : x < 60) : fx_192_44 gFU (x : Int) (x : Int) s = some (.inl ((100 * ((pst (s 222) x x : Nat) : Int) + ((pen (s 222) x (60 - x) : Nat) : Int)) - ((pst (s 222) x x : Nat) : Int)), s) := by
  have k2 : ∀ (z : Nat) (m f : Nat), m ≤ 60 → m < f → fx_192_74 f (x : Int) (z : Int) ((60 - m : Nat) : Int) s = some (.inl ((100 * (z : Int) + ((pen (s 222) x m : Nat) : Int)) - (z : Int)), s) := by
    intro z q
    induction q with
    | zero =>
      intro f _ hf
      obtain ⟨f, rfl⟩ : ∃ q, f = q + 1 := ⟨f - 1, by omega⟩
      rw [fx_192_74, gq_R (by omega) (by omega), if_neg (by omega)]
      rfl
    | succ q ih =>
      intro f hq hf
      obtain ⟨f, rfl⟩ : ∃ q, f = q + 1 := ⟨f - 1, by omega⟩
      have b1 := hb (60 - (q + 1)) (by omega)
      have b2 := hb x hx
      rw [fx_192_74, gq_R (by omega) (by omega), if_pos (by omega), gq_ix (by omega) (by omega), gq_ix (by omega) (by omega), Int.toNat_natCast, Int.toNat_natCast, gq_R (by omega) (by omega), gq_R (by omega) (by omega), pen]
      by_cases h : s 222 (60 - (q + 1)) = s 222 x
      · rw [if_pos h, if_pos h, show ((60 - (q + 1) : Nat) : Int) + 1 = ((60 - q : Nat) : Int) by omega]
        exact ih f (by omega) (by omega)
      · rw [if_neg h, if_neg h]
        rfl
  have k1 : ∀ (q f : Nat), q ≤ x → q < f → fx_192_44 f (x : Int) (q : Int) s = some (.inl ((100 * ((pst (s 222) x q : Nat) : Int) + ((pen (s 222) x (60 - x) : Nat) : Int)) - ((pst (s 222) x q : Nat) : Int)), s) := by
    have k3 : ∀ z : Nat, fx_192_74 gFU (x : Int) (z : Int) (x : Int) s = some (.inl ((100 * (z : Int) + ((pen (s 222) x (60 - x) : Nat) : Int)) - (z : Int)), s) := by
      intro z
      have := k2 z (60 - x) gFU (by omega) (by unfold gFU; omega)
      rw [show 60 - (60 - x) = x by omega] at this
      exact this
    intro q
    induction q with
    | zero =>
      intro f _ hf
      obtain ⟨f, rfl⟩ : ∃ q, f = q + 1 := ⟨f - 1, by omega⟩
      rw [fx_192_44, gq_R (by omega) (by omega), if_neg (by omega), k3]
      rfl
    | succ q ih =>
      intro f hq hf
      obtain ⟨f, rfl⟩ : ∃ q, f = q + 1 := ⟨f - 1, by omega⟩
      have b1 := hb q (by omega)
      have b2 := hb x hx
      rw [fx_192_44, gq_R (by omega) (by omega), if_pos (by omega), gq_ix (by omega) (by omega), gq_ix (by omega) (by omega), show ((q + 1 : Nat) : Int) - 1 = (q : Int) by omega, Int.toNat_natCast, Int.toNat_natCast, gq_R (by omega) (by omega), gq_R (by omega) (by omega), pst]
      by_cases h : s 222 q = s 222 x
      · rw [if_pos h, if_pos h, show ((q + 1 : Nat) : Int) + (-1) = (q : Int) by omega]
        exact ih f (by omega) (by omega)
      · rw [if_neg h, if_neg h, k3]
  exact k1 x gFU (Nat.le_refl _) (by unfold gFU; omega)
theorem pst_congr {f g : Nat → Int} (h : ∀ u, u < 60 → f u = g u) {x : Nat} (hx : x < 60) : ∀ q, q ≤ x → pst f x q = pst g x q := by
  intro q
  induction q with
  | zero => intro _; rfl
  | succ q ih => intro hq; rw [pst, pst, h q (by omega), h x hx, ih (by omega)]
theorem pen_congr {f g : Nat → Int} (h : ∀ u, u < 60 → f u = g u) {x : Nat} (hx : x < 60) : ∀ m, m ≤ 60 → pen f x m = pen g x m := by
  intro q
  induction q with
  | zero => intro _; rfl
  | succ q ih => intro hq; rw [pen, pen, h (60 - (q + 1)) (by omega), h x hx, ih (by omega)]
theorem r134 {x : Int} (h1 : -2147483648 ≤ x ∧ x ≤ 2147483647) {s : gb_S} {b : Bool} (hb : decide (0 ≤ x ∧ x < 60) = b) : fx_134 x s = some (.inl (if b = true then 1 else 0), s) := by
  rw [g134 h1, hb]
/-- 30: parcelAt -/
theorem qc30 {x : Int} (h1 : -2147483648 ≤ x ∧ x ≤ 2147483647) (hi : IV2 c σ n nb nd P ps De Cf) : CM rI c (fx_222 x) (fx_192 x) σ := by
  have hn := hi.1.1
  have hob : ∀ u, u < 60 → -1 ≤ σ 37 u ∧ σ 37 u < 14 := fun u hu => by have := own_b hi hu; omega
  by_cases h : 0 ≤ x ∧ x < 60
  · obtain ⟨u, rfl⟩ : ∃ u : Nat, x = (u : Int) := ⟨x.toNat, by omega⟩
    have hu : u < 60 := by omega
    have hb := hob u hu
    have hr : ∀ s : gb_S, (∀ v, v < 60 → s 222 v = σ 37 v) → (∀ v, v < 60 → -1 ≤ s 222 v ∧ s 222 v < 14) := fun s hs v hv => by rw [hs v hv]; exact hob v hv
    by_cases ho : σ 37 u = -1
    · refine CM_thr (k := 2) (b := 0) hi ?_ (by omega) ?_ (by unfold rI; omega)
      · unfold fx_222 fx_109
        rw [c112 h1, if_pos h, gc_v, c40 hu, gc_v, gq_R (by omega) (by omega), if_pos ho, gch_e, if_neg (by decide), if_pos rfl]
      · obtain ⟨s, e, r, sc, st, t, o⟩ := r184 hi
        refine ⟨gb_up s 187 43 2, ?_, SC_trans sc (up43_SC 2), up43_ST 2 st, up_eq _ _ _ _, by rw [up_ne _ _ _ _ (by omega)]; exact o⟩
        unfold fx_192
        rw [r134 h1 (decide_eq_true h), gc_v, if_pos rfl, gq_R (by omega) (by omega), if_neg (by decide), e, gc_v]
        unfold fx_192_13 fx_192_34
        have h3 := r u hu
        rw [gq_R (by omega) (by omega), if_neg (by decide), gq_ix (by omega) (by omega), Int.toNat_natCast, gq_R (by omega) (by omega), if_pos (by omega)]
        have := g128 (σ := s) true false
        rw [show (if false = true then (1 : Int) else 0) = 0 from rfl, show (if true = true then (1 : Int) else 0) = 1 from rfl] at this
        rw [this, gc_v]
        exact (gq_R (by decide) (by decide)).trans (if_pos rfl)
    · have hp1 := pst_le (σ 37) u u
      have hp2 := pen_le (σ 37) u (60 - u)
      refine CM_val (s := σ) (v := (100 * ((pst (σ 37) u u : Nat) : Int) + ((pen (σ 37) u (60 - u) : Nat) : Int)) - ((pst (σ 37) u u : Nat) : Int)) hi (SK_refl _) ?_ (fun σ' hsc hi' => ?_) (by unfold rI; omega)
      · unfold fx_222 fx_109
        rw [c112 h1, if_pos h, gc_v, c40 hu, gc_v, gq_R (by omega) (by omega), if_neg ho, c43 hob hu, gc_v, c44 hob hu, gc_v, gch_v, gq_R (by omega) (by omega)]
      · obtain ⟨s, e, r, sc, st, t, o⟩ := r184 hi'
        have hr2 : ∀ v, v < 60 → s 222 v = σ 37 v := fun v hv => by rw [r v hv, sa hsc (c := 37) (by unfold scr; omega) (by omega)]
        have hr3 : ∀ v, v < 60 → (gb_up s 187 43 0) 222 v = σ 37 v := fun v hv => by rw [up_ne _ _ _ _ (by omega)]; exact hr2 v hv
        refine ⟨gb_up s 187 43 0, ?_, SC_trans sc (up43_SC 0), up43_ST 0 st, up_eq _ _ _ _, by rw [up_ne _ _ _ _ (by omega)]; exact o⟩
        unfold fx_192
        rw [r134 h1 (decide_eq_true h), gc_v, if_pos rfl, gq_R (by omega) (by omega), if_neg (by decide), e, gc_v]
        unfold fx_192_13 fx_192_34
        have h3 := hr2 u hu
        rw [gq_R (by omega) (by omega), if_neg (by decide), gq_ix (by omega) (by omega), Int.toNat_natCast, gq_R (by omega) (by omega), if_neg (by omega)]
        have := g128 (σ := s) true true
        rw [show (if true = true then (1 : Int) else 0) = 1 from rfl] at this
        rw [this, gc_v, show (if (true && true) = true then (1 : Int) else 0) = 1 from rfl, gq_R (by omega) (by omega), if_neg (by decide)]
        have h4 := r192 (s := gb_up s 187 43 0) (hr _ hr3) hu
        rw [pst_congr hr3 hu u (Nat.le_refl _), pen_congr hr3 hu (60 - u) (by omega)] at h4
        exact h4
  · refine CM_thr (k := 1) (b := 0) hi ?_ (by omega) ?_ (by unfold rI; omega)
    · unfold fx_222 fx_109
      rw [c112 h1, if_neg h, gc_e, gch_e, if_pos rfl]
    · refine ⟨gb_up σ 187 43 1, ?_, up43_SC 1, up43_ST 1 hi.2.1, up_eq _ _ _ _, up_ne _ _ _ _ (by omega)⟩
      unfold fx_192
      rw [r134 h1 (decide_eq_false h), gc_v, show (if false = true then (1 : Int) else 0) = 0 from rfl, gq_R (by omega) (by omega), if_pos rfl]
      unfold fx_192_13 fx_192_34
      rw [gq_R (by omega) (by omega), if_pos rfl]
      have := g128 (σ := σ) false false
      rw [show (if false = true then (1 : Int) else 0) = 0 from rfl] at this
      rw [this, gc_v]
      exact (gq_R (by decide) (by decide)).trans (if_pos rfl)
/-- 29: parcels -/
theorem qc29 (hi : IV2 c σ n nb nd P ps De Cf) : ∃ v : Int, fx_108 σ = some (.inl v, σ) ∧ (0 ≤ v ∧ v ≤ 60) ∧ RQ (fun s => fx_191 s) 0 v n P σ := by
  have hn := hi.1.1
  have hob : ∀ u, u < 60 → -1 ≤ σ 37 u ∧ σ 37 u < 14 := fun u hu => by have := own_b hi hu; omega
  have hle := ct_le (fun u => !decide (σ 37 u = -1) && decide (pst (σ 37) u u = u)) 60
  refine ⟨((ct (fun u => !decide (σ 37 u = -1) && decide (pst (σ 37) u u = u)) 60 : Nat) : Int), ?_, by omega, ?_⟩
  · have key : ∀ (m f : Nat), m ≤ 60 → m < f → fx_108_4 f ((ct (fun u => !decide (σ 37 u = -1) && decide (pst (σ 37) u u = u)) (60 - m) : Nat) : Int) ((60 - m : Nat) : Int) σ = some (.inl ((ct (fun u => !decide (σ 37 u = -1) && decide (pst (σ 37) u u = u)) 60 : Nat) : Int), σ) := by
      intro m
      induction m with
      | zero =>
        intro f _ hf
        obtain ⟨f, rfl⟩ : ∃ q, f = q + 1 := ⟨f - 1, by omega⟩
        rw [fx_108_4, gq_R (by omega) (by omega), if_neg (by omega), Nat.sub_zero]
      | succ m ih =>
        intro f hm hf
        obtain ⟨f, rfl⟩ : ∃ q, f = q + 1 := ⟨f - 1, by omega⟩
        have ihk := ih f (by omega) (by omega)
        generalize hj : 60 - (m + 1) = j
        have hj2 : 60 - m = j + 1 := by omega
        rw [hj2, ct] at ihk
        have hb := hob j (by omega)
        have hp := pst_le (σ 37) j j
        rw [fx_108_4, gq_R (by omega) (by omega), if_pos (by omega), c40 (by omega), gc_v, gq_R (by omega) (by omega), show ((j : Nat) : Int) + 1 = ((j + 1 : Nat) : Int) by omega]
        by_cases h0 : σ 37 j = -1
        · rw [if_pos h0]
          rw [decide_eq_true h0, Bool.not_true, Bool.false_and, if_neg (by decide), Nat.add_zero] at ihk
          exact ihk
        · rw [if_neg h0, c43 hob (by omega), gc_v, gq_R (by omega) (by omega)]
          rw [decide_eq_false h0, Bool.not_false, Bool.true_and] at ihk
          by_cases h2 : pst (σ 37) j j = j
          · rw [if_pos (by omega)]
            rw [decide_eq_true h2, if_pos rfl] at ihk
            exact ihk
          · rw [if_neg (by omega)]
            rw [decide_eq_false h2, if_neg (by decide), Nat.add_zero] at ihk
            exact ihk
    exact key 60 gFU (Nat.le_refl _) (by unfold gFU; omega)
  · obtain ⟨s, e, r, sc, st, t, o⟩ := r184 hi
    refine ⟨gb_up s 187 43 0, ?_, SC_trans sc (up43_SC 0), up43_ST 0 st, up_eq _ _ _ _, by rw [up_ne _ _ _ _ (by omega)]; exact o⟩
    show fx_191 σ = _
    unfold fx_191
    rw [e, gc_v]
    have key : ∀ (m f : Nat), m ≤ 60 → m < f → fx_191_8 f ((ct (fun u => !decide (σ 37 u = -1) && decide (pst (σ 37) u u = u)) (60 - m) : Nat) : Int) ((60 - m : Nat) : Int) s = some (.inl ((ct (fun u => !decide (σ 37 u = -1) && decide (pst (σ 37) u u = u)) 60 : Nat) : Int), gb_up s 187 43 0) := by
      intro m
      induction m with
      | zero =>
        intro f _ hf
        obtain ⟨f, rfl⟩ : ∃ q, f = q + 1 := ⟨f - 1, by omega⟩
        rw [fx_191_8, gq_R (by omega) (by omega), if_neg (by omega), Nat.sub_zero]
        unfold fx_130
        rw [gc_v]
      | succ m ih =>
        intro f hm hf
        obtain ⟨f, rfl⟩ : ∃ q, f = q + 1 := ⟨f - 1, by omega⟩
        have ihk := ih f (by omega) (by omega)
        generalize hj : 60 - (m + 1) = j
        have hj2 : 60 - m = j + 1 := by omega
        rw [hj2, ct] at ihk
        have hb := hob j (by omega)
        have hrj := r j (by omega)
        rw [fx_191_8, gq_R (by omega) (by omega), if_pos (by omega), gq_ix (by omega) (by omega), Int.toNat_natCast, hrj, gq_R (by omega) (by omega), show ((j : Nat) : Int) + 1 = ((j + 1 : Nat) : Int) by omega]
        by_cases h0 : σ 37 j = -1
        · rw [if_pos h0, Int.add_zero]
          rw [decide_eq_true h0, Bool.not_true, Bool.false_and, if_neg (by decide), Nat.add_zero] at ihk
          exact ihk
        · rw [if_neg h0]
          rw [decide_eq_false h0, Bool.not_false, Bool.true_and] at ihk
          by_cases hz : j = 0
          · have h2 : pst (σ 37) j j = j := by rw [pst_eq]; exact Or.inl hz
            rw [if_pos (by omega)]
            rw [decide_eq_true h2, if_pos rfl] at ihk
            exact ihk
          · have hb1 := hob (j - 1) (by omega)
            have hrj1 := r (j - 1) (by omega)
            rw [if_neg (by omega), gq_ix (by omega) (by omega), show ((j : Int) - 1).toNat = j - 1 by omega, hrj1, gq_R (by omega) (by omega)]
            by_cases h2 : σ 37 (j - 1) = σ 37 j
            · have h3 : ¬ pst (σ 37) j j = j := by
                rw [pst_eq]
                intro q
                rcases q with q | q
                · exact hz q
                · exact q h2
              rw [if_pos h2, Int.add_zero]
              rw [decide_eq_false h3, if_neg (by decide), Nat.add_zero] at ihk
              exact ihk
            · have h3 : pst (σ 37) j j = j := by rw [pst_eq]; exact Or.inr h2
              rw [if_neg h2]
              rw [decide_eq_true h3, if_pos rfl] at ihk
              exact ihk
    exact key 60 gFU (Nat.le_refl _) (by unfold gFU; omega)
end QD1
