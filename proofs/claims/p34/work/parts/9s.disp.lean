section DI1
variable {σ : gb_S} {c n nb nd : Nat} {P : pT} {ps : Nat → Nat} {De : Nat → dT} {Cf : Nat → List Nat}
/-- sums of naturals -/
def dps (f : Nat → Nat) : Nat → Nat
  | 0 => 0
  | m + 1 => dps f m + f m
theorem dps_add {f g h : Nat → Nat} : ∀ {m : Nat}, (∀ k, k < m → h k = f k + g k) → dps h m = dps f m + dps g m := by
  intro m
  induction m with
  | zero => intro _; rfl
  | succ m ih => intro q; rw [dps, dps, dps, ih (fun k hk => q k (by omega)), q m (by omega)]; omega
theorem dps_zero {f : Nat → Nat} : ∀ {m : Nat}, (∀ k, k < m → f k = 0) → dps f m = 0 := by
  intro m
  induction m with
  | zero => intro _; rfl
  | succ m ih => intro q; rw [dps, ih (fun k hk => q k (by omega)), q m (by omega)]
theorem dps_one {f : Nat → Nat} {a v : Nat} : ∀ {m : Nat}, a < m → (∀ k, k < m → f k = if a = k then v else 0) → dps f m = v := by
  intro m
  induction m with
  | zero => intro h _; omega
  | succ m ih =>
    intro h q
    rw [dps, q m (by omega)]
    by_cases ha : a = m
    · rw [if_pos ha, dps_zero (fun k hk => by rw [q k (by omega), if_neg (by omega)]), Nat.zero_add]
    · rw [if_neg ha, ih (by omega) (fun k hk => q k (by omega)), Nat.add_zero]
/-- doubts counted by proofs, and by doubts -/
theorem dpc {o op : Nat → Bool} {ag : Nat → Nat} {N : Nat} : ∀ {m : Nat}, (∀ j, j < m → ag j < N) → dps (fun k => if o k = true then ct (fun j => op j && decide (ag j = k)) m else 0) N = ct (fun j => op j && o (ag j)) m := by
  intro m
  induction m with
  | zero => intro _; exact dps_zero (fun k _ => by rw [ct]; split <;> rfl)
  | succ m ih =>
    intro h
    rw [ct, ← ih (fun j hj => h j (by omega))]
    have h1 : dps (fun k => if o k = true then (if (op m && decide (ag m = k)) = true then 1 else 0) else 0) N = (if (op m && o (ag m)) = true then 1 else 0) := dps_one (a := ag m) (h m (by omega)) (fun k _ => by
      by_cases hk : ag m = k
      · rw [if_pos hk, ← hk, decide_eq_true rfl, Bool.and_true]
        cases o (ag m) <;> cases op m <;> rfl
      · rw [if_neg hk, decide_eq_false hk, Bool.and_false]
        cases o k <;> rfl)
    rw [← h1]
    exact dps_add (fun k _ => by
      rw [ct]
      by_cases ho : o k = true
      · rw [if_pos ho, if_pos ho, if_pos ho]
      · rw [if_neg ho, if_neg ho, if_neg ho])
/-- one proof without power -/
def Pz (P : pT) (k : Nat) : pT := (P.1, P.2.1, P.2.2.1, snI P.2.2.2 k 0)
theorem Pz_same {k : Nat} (h : P.2.2.2 k = 0) : Pz P k = P := by
  have : snI P.2.2.2 k 0 = P.2.2.2 := by
    funext j
    by_cases hj : j = k
    · rw [hj, snI_eq, h]
    · rw [snI_ne hj]
  unfold Pz
  rw [this]
theorem Pz_PH {k : Nat} (h : PH P) : PH (Pz P k) := by
  refine ⟨h.1, fun j hj => ?_⟩
  have h2 := h.2 j hj
  refine ⟨h2.1, h2.2.1, ?_⟩
  show 0 ≤ snI P.2.2.2 k 0 j ∧ snI P.2.2.2 k 0 j ≤ 9
  by_cases hj2 : j = k
  · rw [hj2, snI_eq]; omega
  · rw [snI_ne hj2]; exact h2.2.2
theorem Pz_PC {s : gb_S} {k : Nat} (h : PC s (-1) P) : PC s (k : Int) (Pz P k) := by
  refine ⟨h.1, fun j hj => ?_⟩
  obtain ⟨h1, h2, h3, h4, h5, h6⟩ := h.2 j hj
  rw [if_neg (by omega)] at h6
  refine ⟨h1, h2, h3, h4, h5, ?_⟩
  show snI P.2.2.2 k 0 j = _
  by_cases hj2 : j = k
  · rw [hj2, snI_eq, if_pos rfl]
  · rw [snI_ne hj2, if_neg (by omega)]; exact h6
/-- as if a proof had fallen -/
def fz (s : gb_S) (k : Nat) : gb_S := gb_up (gb_up s 193 k 1) 187 29 1
theorem fz_o {s : gb_S} {k c : Nat} (h1 : c ≠ 193) (h2 : c ≠ 187) : fz s k c = s c := by
  unfold fz
  rw [up_ne _ _ _ _ h2, up_ne _ _ _ _ h1]
theorem fz_j {s : gb_S} {k j : Nat} (h : j ≠ 29) : fz s k 187 j = s 187 j := by
  unfold fz
  rw [up_nj _ _ _ _ h, up_ne _ _ _ _ (by omega)]
theorem fz_193 {s : gb_S} {k : Nat} : fz s k 193 = snI (s 193) k 1 := by
  unfold fz
  rw [up_ne _ _ _ _ (by omega), up_sn]
theorem fz_RB {k : Nat} (hb : RB σ n nb P ps) : RB (fz σ k) n nb (Pz P k) ps := by
  obtain ⟨b1, b2, b3, b4, b5, b6, b7, b8, b9, b10, b11⟩ := id hb
  obtain ⟨a1, a2, a3, a4, a5⟩ := b4
  refine RB_new hb (fun c h => fz_o (by omega) (by omega)) (fz_j (by omega)) (Pz_PH b3) ⟨by rw [fz_j (by omega)]; exact a1, by rw [fz_j (by omega)]; exact a2, a3, by rw [fz_o (by omega) (by omega), fz_o (by omega) (by omega), fz_o (by omega) (by omega)]; exact a4, fun j hj => ?_⟩ b5
  obtain ⟨h1, h2, h3, h4, h5⟩ := a5 j hj
  rw [fz_193, fz_o (c := 190) (by omega) (by omega), fz_o (c := 191) (by omega) (by omega), fz_o (c := 192) (by omega) (by omega), fz_o (c := 194) (by omega) (by omega), fz_o (c := 195) (by omega) (by omega), fz_o (c := 196) (by omega) (by omega)]
  refine ⟨h1, h2, h3, ?_, ?_⟩
  · by_cases hj2 : j = k
    · rw [hj2, snI_eq]; exact Or.inr rfl
    · rw [snI_ne hj2]; exact h4
  · show snI P.2.2.2 k 0 j = _
    by_cases hj2 : j = k
    · rw [hj2, snI_eq, snI_eq, if_neg (by decide)]
    · rw [snI_ne hj2, snI_ne hj2]; exact h5
theorem fz_TT {k d : Nat} : TT (fz σ k) n P d = TT σ n P d := TT_cong (fun c h => fz_o (by omega) (by omega)) n P d
theorem fz_Rd {k : Nat} : Rd (fz σ k) n P = Rd σ n P := funext fun d => Rd_cong (fun c h => fz_o (by omega) (by omega)) n P d
/-- would the shares be others without the proof -/
def dpo (σ : gb_S) (n : Nat) (P : pT) (d k : Nat) : Bool := !smB (Rd σ n (Pz P k) d) (Rd σ n P d) n
theorem dpo_cong {s : gb_S} (h : SC σ s) {d k : Nat} : dpo s n P d k = dpo σ n P d k := by
  unfold dpo
  rw [SC_Rd h, SC_Rd h]
/-- wouldBeOthers -/
theorem c120 (hi : IV2 c σ n nb nd P ps De Cf) {d k a2 : Nat} (hd : d < n) (hx : σ 189 d ≠ -1) (hk : k < P.1) (ha2 : a2 = 41 ∨ a2 = 47 + 10 * d + 3) (hcm : cm σ a2 (Rd σ n P d)) : ∃ s, fx_120 (47 + 10 * d) a2 (k : Int) σ = some (.inl (ib (dpo σ n P d k)), s) ∧ SK σ s ∧ cm s a2 (Rd σ n P d) := by
  have hn := hi.1.1
  have hH := hi.1.2.2.1
  have h30 := hH.1
  have hpc := (PO_PC hi).1
  have hS := Rd_SR hi.1 hd
  have hpk := hpc.2 k hk
  have hst := (hH.2 k hk).2.2
  have e67 := g67 hH hpc hk
  have hpw : (if σ 11 k = 0 then max 0 (σ 9 k - σ 10 k) else 0) = P.2.2.2 k := by
    have h9 := hpk.2.2.2.2.2
    rw [if_neg (show ¬ (k : Int) = -1 by omega)] at h9
    exact h9.symm
  rw [hpw] at e67
  unfold fx_120
  rw [e67, gc_v, gq_R (by omega) (by omega)]
  by_cases h0 : P.2.2.2 k = 0
  · rw [if_pos h0]
    refine ⟨σ, ?_, SK_refl σ, hcm⟩
    unfold dpo
    rw [Pz_same h0, smB_iff.mpr (fun _ _ => rfl)]
    rfl
  · rw [if_neg h0]
    have hrbz := fz_RB (k := k) hi.1
    obtain ⟨s1, e1, kp1, f1⟩ := g35 (x := (k : Int)) (a := 20) (Pz_PH (k := k) hH) (by omega) (Or.inr rfl) (Pz_PC hpc)
    have hkc : KC s1 20 (TT σ n (Pz P k) d) := by
      have := KP_KC hrbz kp1 d
      rw [fz_TT] at this
      exact this
    have hSz : SR n (Rd σ n (Pz P k) d) := by
      have := Rd_SR hrbz hd
      rw [fz_Rd] at this
      exact this
    have hKH : KH (TT σ n (Pz P k) d) ps := by
      have := TT_KH hrbz hd
      rw [fz_TT] at this
      exact this
    have hFK : FK s1 (47 + 10 * d) (TT σ n (Pz P k) d) (ww σ d) := FK_cg (fun c h => f1 c (by omega) (by omega) (by omega) (by omega)) (FK_P (IV_FK hi hd hx))
    obtain ⟨s2, e2, cm2, f2⟩ := g1 (r := 44) hKH hkc hFK (Or.inr rfl) ⟨d, by omega, rfl⟩ (by omega)
    have cm2 : cm s2 44 (Rd σ n (Pz P k) d) := cm2
    have hcm2 : cm s2 a2 (Rd σ n P d) := cm_cong (by rw [f2 _ (by omega) (by omega) (by omega) (by omega) (by omega), f1 _ (by omega) (by omega) (by omega) (by omega)]) (by rw [f2 _ (by omega) (by omega) (by omega) (by omega) (by omega), f1 _ (by omega) (by omega) (by omega) (by omega)]) hcm
    refine ⟨s2, ?_, fun c h => ?_, hcm2⟩
    · rw [e1, gc_v, e2, gc_v, c76 cm2 hcm2 hSz hS, gc_v, gq_R (ibR _).1 (ibR _).2, smB_14 hn hSz hS]
      unfold dpo
      cases smB (Rd σ n (Pz P k) d) (Rd σ n P d) n with
      | false => rw [ibF, if_pos rfl]; rfl
      | true => rw [ibT, if_neg (by decide)]; rfl
    · rw [f2 c (by unfold scr at h; omega) (by unfold scr at h; omega) (by unfold scr at h; omega) (by unfold scr at h; omega) (by unfold scr at h; omega), f1 c (by unfold scr at h; omega) (by unfold scr at h; omega) (by unfold scr at h; omega) (by unfold scr at h; omega)]
/-- countOpen -/
theorem c66 (hi : IV2 c σ n nb nd P ps De Cf) {k : Nat} (hk : k < P.1) : fx_66 (k : Int) σ = some (.inl ((ct (fun j => !decide (σ 196 j = 0) && decide ((σ 194 j).toNat = k)) nb : Nat) : Int), σ) := by
  obtain ⟨a1, a2, a3, a4, a5⟩ := hi.1.2.2.2.1
  obtain ⟨p1, p2, p3, p4, p5⟩ := hi.2.2.2.2.1
  have h30 := hi.1.2.2.1.1
  have key : ∀ (m f : Nat), m ≤ nb → m < f → fx_66_4 f (k : Int) ((ct (fun j => !decide (σ 196 j = 0) && decide ((σ 194 j).toNat = k)) (nb - m) : Nat) : Int) ((nb - m : Nat) : Int) σ = some (.inl ((ct (fun j => !decide (σ 196 j = 0) && decide ((σ 194 j).toNat = k)) nb : Nat) : Int), σ) := by
    intro m
    induction m with
    | zero =>
      intro f _ hf
      obtain ⟨f, rfl⟩ : ∃ q, f = q + 1 := ⟨f - 1, by omega⟩
      rw [fx_66_4, gq_R (by omega) (by omega), gq_R (by omega) (by omega), if_neg (by omega), Nat.sub_zero]
    | succ m ih =>
      intro f hm hf
      obtain ⟨f, rfl⟩ : ∃ q, f = q + 1 := ⟨f - 1, by omega⟩
      have ihk := ih f (by omega) (by omega)
      generalize hi : nb - (m + 1) = i
      have hi2 : nb - m = i + 1 := by omega
      rw [hi2, ct] at ihk
      obtain ⟨q1, q2, q3, q4, q5⟩ := p4 i (by omega)
      have b4 := a4 i (by omega)
      rw [fx_66_4, gq_R (by omega) (by omega), gq_R (by omega) (by omega), if_pos (by omega), gq_ix (by omega) (by omega), Int.toNat_natCast, q1, gq_R (by omega) (by omega), gq_R (by omega) (by omega), show ((i : Nat) : Int) + 1 = ((i + 1 : Nat) : Int) by omega]
      by_cases h : σ 194 i = (k : Int)
      · rw [if_pos h, q3, gq_R (by omega) (by omega)]
        rw [decide_eq_true (show (σ 194 i).toNat = k by omega), Bool.and_true] at ihk
        by_cases h0 : σ 196 i = 0
        · rw [if_pos h0]
          rw [decide_eq_true h0, if_neg (by decide), Nat.add_zero] at ihk
          exact ihk
        · rw [if_neg h0]
          rw [decide_eq_false h0, if_pos (by decide)] at ihk
          exact ihk
      · rw [if_neg h]
        rw [decide_eq_false (show ¬ (σ 194 i).toNat = k by omega), Bool.and_false, if_neg (by decide), Nat.add_zero] at ihk
        exact ihk
  have := key nb gFU (Nat.le_refl _) (by unfold gFU; omega)
  rw [Nat.sub_self] at this
  exact this
/-- what the class adds for a proof -/
def dpk (σ : gb_S) (n nb : Nat) (P : pT) (d k : Nat) : Nat := if dpo σ n P d k = true then ct (fun j => !decide (σ 196 j = 0) && decide ((σ 194 j).toNat = k)) nb else 0
theorem c101l (hi : IV2 c σ n nb nd P ps De Cf) {d a2 : Nat} (hd : d < n) (hx : σ 189 d ≠ -1) (ha2 : a2 = 41 ∨ a2 = 47 + 10 * d + 3) : ∀ (m f : Nat) (s : gb_S), m ≤ P.1 → m < f → SK σ s → cm s a2 (Rd σ n P d) → ∃ s', fx_101_21 f (d : Int) a2 ((dps (dpk σ n nb P d) (P.1 - m) : Nat) : Int) ((P.1 - m : Nat) : Int) s = some (.inl ((dps (dpk σ n nb P d) P.1 : Nat) : Int), s') ∧ SK σ s' := by
  have hn := hi.1.1
  have h30 := hi.1.2.2.1.1
  have hnb := hi.1.2.2.2.1.2.2.1
  intro m
  induction m with
  | zero =>
    intro f s _ hf sk hcm
    obtain ⟨f, rfl⟩ : ∃ q, f = q + 1 := ⟨f - 1, by omega⟩
    have h65 := (SK_IV sk hi).2.2.2.2.1.1
    refine ⟨s, ?_, sk⟩
    rw [fx_101_21, gq_R (by omega) (by omega), gq_R (by omega) (by omega), if_neg (by omega), Nat.sub_zero]
  | succ m ih =>
    intro f s hm hf sk hcm
    obtain ⟨f, rfl⟩ : ∃ q, f = q + 1 := ⟨f - 1, by omega⟩
    have ih := fun s => ih f s (by omega) (by omega)
    generalize hik : P.1 - (m + 1) = k
    have hi2 : P.1 - m = k + 1 := by omega
    rw [hi2, dps] at ih
    have hk : k < P.1 := by omega
    have hi' := SK_IV sk hi
    have h65 := hi'.2.2.2.2.1.1
    have e196 : s 196 = σ 196 := sk 196 (Or.inr (by omega))
    have e194 : s 194 = σ 194 := sk 194 (Or.inr (by omega))
    have e66 := c66 hi' hk
    rw [e196, e194] at e66
    have hle := ct_le (fun j => !decide (σ 196 j = 0) && decide ((σ 194 j).toNat = k)) nb
    rw [fx_101_21, gq_R (by omega) (by omega), gq_R (by omega) (by omega), if_pos (by omega), e66, gc_v, gq_R (by omega) (by omega), show ((k : Nat) : Int) + 1 = ((k + 1 : Nat) : Int) by omega]
    have hR : Rd s n P d = Rd σ n P d := by rw [SC_Rd (SK_SC sk)]
    have hdp : dpk σ n nb P d k = if dpo σ n P d k = true then ct (fun j => !decide (σ 196 j = 0) && decide ((σ 194 j).toNat = k)) nb else 0 := rfl
    generalize ct (fun j => !decide (σ 196 j = 0) && decide ((σ 194 j).toNat = k)) nb = v at hle hdp e66 ⊢
    by_cases hv : 0 < v
    · obtain ⟨s1, e1, sk1, cm1⟩ := c120 hi' hd (by rw [sk 189 (Or.inr (by omega))]; exact hx) hk ha2 (by rw [hR]; exact hcm)
      rw [dpo_cong (SK_SC sk)] at e1
      rw [hR] at cm1
      rw [if_pos (by omega), gq_ix (by omega) (by omega), Int.toNat_natCast, e1, gc_v, gq_R (ibR _).1 (ibR _).2]
      obtain ⟨s', e', sk'⟩ := ih s1 (SK_trans sk sk1) cm1
      refine ⟨s', ?_, sk'⟩
      cases ho : dpo σ n P d k with
      | false =>
        rw [ibF, if_pos rfl]
        rw [hdp, ho, if_neg (by decide), Nat.add_zero] at e'
        exact e'
      | true =>
        rw [ibT, if_neg (by decide)]
        rw [hdp, ho, if_pos rfl] at e'
        rw [show ((dps (dpk σ n nb P d) k : Nat) : Int) + (v : Int) = ((dps (dpk σ n nb P d) k + v : Nat) : Int) by omega]
        exact e'
    · have hv0 : v = 0 := by omega
      rw [if_neg (by omega)]
      obtain ⟨s', e', sk'⟩ := ih s sk hcm
      refine ⟨s', ?_, sk'⟩
      rw [hdp, hv0, ite_self, Nat.add_zero] at e'
      exact e'
end DI1
