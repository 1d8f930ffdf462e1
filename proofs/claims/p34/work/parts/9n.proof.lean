section PF1
variable {σ : gb_S} {c n nb nd : Nat} {P : pT} {ps : Nat → Nat} {De : Nat → dT} {Cf : Nat → List Nat}
/-- a row with another value at one place -/
def snI (f : Nat → Int) (N : Nat) (v : Int) : Nat → Int := fun k => if k = N then v else f k
theorem snI_eq {f : Nat → Int} {N : Nat} {v : Int} : snI f N v N = v := if_pos rfl
theorem snI_ne {f : Nat → Int} {N k : Nat} {v : Int} (h : k ≠ N) : snI f N v k = f k := if_neg h
theorem up_sn (σ : gb_S) (a j : Nat) (v : Int) : gb_up σ a j v a = snI (σ a) j v := by
  funext k
  by_cases h : k = j
  · rw [h, up_eq, snI_eq]
  · rw [up_nj _ _ _ _ h, snI_ne h]
theorem od_none {op ag dw : Nat → Int} {k : Nat} : ∀ {m : Nat}, (∀ j, j < m → ag j ≠ (k : Int)) → od op ag dw k m = 0 := by
  intro m
  induction m with
  | zero => intro _; rfl
  | succ m ih => intro h; rw [od, ih (fun j hj => h j (by omega)), if_neg (fun q => h m (by omega) q.2)]; rfl
def P6 (P : pT) (x y z : Int) : pT := (P.1 + 1, snI P.2.1 P.1 x, snI P.2.2.1 P.1 y, snI P.2.2.2 P.1 z)
def C6 (σ : gb_S) (N : Nat) (x y z : Int) : gb_S := gb_up (gb_up (gb_up (gb_up (en59 σ N x y z) 190 N x) 191 N y) 192 N z) 187 8 ((N : Int) + 1)
theorem en59_o (σ : gb_S) (N : Nat) (x1 x2 x3 : Int) {c : Nat} (h : c < 6 ∨ 9 < c) : en59 σ N x1 x2 x3 c = σ c := by
  unfold en59
  rw [up_ne _ _ _ _ (by omega), up_ne _ _ _ _ (by omega), up_ne _ _ _ _ (by omega), up_ne _ _ _ _ (by omega)]
theorem en59_v (σ : gb_S) (N : Nat) (x1 x2 x3 : Int) : en59 σ N x1 x2 x3 7 = snI (σ 7) N x1 ∧ en59 σ N x1 x2 x3 8 = snI (σ 8) N x2 ∧ en59 σ N x1 x2 x3 9 = snI (σ 9) N x3 ∧ en59 σ N x1 x2 x3 6 5 = (N : Int) + 1 ∧ ∀ j, j ≠ 5 → en59 σ N x1 x2 x3 6 j = σ 6 j := by
  unfold en59
  refine ⟨?_, ?_, ?_, up_eq _ _ _ _, fun j hj => ?_⟩
  · rw [up_ne _ _ _ _ (by omega), up_ne _ _ _ _ (by omega), up_ne _ _ _ _ (by omega), up_sn]
  · rw [up_ne _ _ _ _ (by omega), up_ne _ _ _ _ (by omega), up_sn, up_ne _ _ _ _ (by omega)]
  · rw [up_ne _ _ _ _ (by omega), up_sn, up_ne _ _ _ _ (by omega), up_ne _ _ _ _ (by omega)]
  · rw [up_nj _ _ _ _ hj, up_ne _ _ _ _ (by omega), up_ne _ _ _ _ (by omega), up_ne _ _ _ _ (by omega)]
theorem C6_o (σ : gb_S) (N : Nat) (x y z : Int) {c : Nat} (h : c < 190 ∨ 192 < c) (h2 : c ≠ 187) : C6 σ N x y z c = en59 σ N x y z c := by
  unfold C6
  rw [up_ne _ _ _ _ h2, up_ne _ _ _ _ (by omega), up_ne _ _ _ _ (by omega), up_ne _ _ _ _ (by omega)]
theorem C6_v (σ : gb_S) (N : Nat) (x y z : Int) : C6 σ N x y z 190 = snI (σ 190) N x ∧ C6 σ N x y z 191 = snI (σ 191) N y ∧ C6 σ N x y z 192 = snI (σ 192) N z ∧ C6 σ N x y z 187 8 = (N : Int) + 1 ∧ ∀ j, j ≠ 8 → C6 σ N x y z 187 j = σ 187 j := by
  unfold C6
  refine ⟨?_, ?_, ?_, up_eq _ _ _ _, fun j hj => ?_⟩
  · rw [up_ne _ _ _ _ (by omega), up_ne _ _ _ _ (by omega), up_ne _ _ _ _ (by omega), up_sn, en59_o _ _ _ _ _ (by omega)]
  · rw [up_ne _ _ _ _ (by omega), up_ne _ _ _ _ (by omega), up_sn, up_ne _ _ _ _ (by omega), en59_o _ _ _ _ _ (by omega)]
  · rw [up_ne _ _ _ _ (by omega), up_sn, up_ne _ _ _ _ (by omega), up_ne _ _ _ _ (by omega), en59_o _ _ _ _ _ (by omega)]
  · rw [up_nj _ _ _ _ hj, up_ne _ _ _ _ (by omega), up_ne _ _ _ _ (by omega), up_ne _ _ _ _ (by omega), en59_o _ _ _ _ _ (by omega)]
theorem C6_ok {p q : Nat} {z : Int} (hi : IV2 c σ n nb nd P ps De Cf) (hN : P.1 < 30) (hp : p < n) (hq : q < n) (hz : 1 ≤ z ∧ z ≤ 9) (hlt : σ 188 p < σ 188 q) : RB (C6 σ P.1 (p : Int) (q : Int) z) n nb (P6 P (p : Int) (q : Int) z) ps ∧ PO (C6 σ P.1 (p : Int) (q : Int) z) nb (P6 P (p : Int) (q : Int) z) := by
  have hn := hi.1.1
  obtain ⟨b1, b2, b3, b4, b5, b6, b7, b8, b9, b10, b11⟩ := id hi.1
  obtain ⟨p1, p2, p3, p4, p5⟩ := hi.2.2.2.2.1
  obtain ⟨a1, a2, a3, a4, a5⟩ := b4
  obtain ⟨v1, v2, v3, v4, v5⟩ := C6_v σ P.1 (p : Int) (q : Int) z
  obtain ⟨w1, w2, w3, w4, w5⟩ := en59_v σ P.1 (p : Int) (q : Int) z
  have o : ∀ c, (c < 6 ∨ 9 < c) → (c < 190 ∨ 192 < c) → c ≠ 187 → C6 σ P.1 (p : Int) (q : Int) z c = σ c := fun c h1 h2 h3 => by rw [C6_o _ _ _ _ _ h2 h3, en59_o _ _ _ _ _ h1]
  have hod : od (σ 196) (σ 194) (σ 195) P.1 nb = 0 := od_none (fun j hj => by have := (p4 j hj).2.2.2.1; omega)
  have h5N := p5 P.1 (Nat.le_refl _) hN
  refine ⟨RB_new hi.1 (fun c h => o c (by omega) (by omega) (by omega)) (v5 3 (by omega)) ⟨show P.1 + 1 ≤ 30 by omega, fun k hk => ?_⟩ ⟨v4, by rw [v5 12 (by omega)]; exact a2, a3, ?_, fun k hk => ?_⟩ (fun k hk => ?_), ?_, ?_, fun k hk => ?_, fun j hj => ?_, fun k h1 h2 => ?_⟩
  · show (0 ≤ snI P.2.1 P.1 (p : Int) k ∧ snI P.2.1 P.1 (p : Int) k < 14) ∧ (0 ≤ snI P.2.2.1 P.1 (q : Int) k ∧ snI P.2.2.1 P.1 (q : Int) k < 14) ∧ 0 ≤ snI P.2.2.2 P.1 z k ∧ snI P.2.2.2 P.1 z k ≤ 9
    have hk : k < P.1 + 1 := hk
    by_cases h : k = P.1
    · rw [h, snI_eq, snI_eq, snI_eq]; omega
    · rw [snI_ne h, snI_ne h, snI_ne h]; exact b3.2 k (by omega)
  · rw [o 196 (by omega) (by omega) (by omega), o 194 (by omega) (by omega) (by omega), o 195 (by omega) (by omega) (by omega)]
    exact a4
  · show C6 σ P.1 (p : Int) (q : Int) z 190 k = snI P.2.1 P.1 (p : Int) k ∧ C6 σ P.1 (p : Int) (q : Int) z 191 k = snI P.2.2.1 P.1 (q : Int) k ∧ (0 ≤ C6 σ P.1 (p : Int) (q : Int) z 192 k ∧ C6 σ P.1 (p : Int) (q : Int) z 192 k ≤ 9) ∧ (C6 σ P.1 (p : Int) (q : Int) z 193 k = 0 ∨ C6 σ P.1 (p : Int) (q : Int) z 193 k = 1) ∧ snI P.2.2.2 P.1 z k = _
    have hk : k < P.1 + 1 := hk
    rw [v1, v2, v3, o 193 (by omega) (by omega) (by omega), o 194 (by omega) (by omega) (by omega), o 195 (by omega) (by omega) (by omega), o 196 (by omega) (by omega) (by omega)]
    by_cases h : k = P.1
    · rw [h, snI_eq, snI_eq, snI_eq, snI_eq, snI_eq, snI_eq, h5N.1, hod, if_pos rfl]; omega
    · rw [snI_ne h, snI_ne h, snI_ne h, snI_ne h, snI_ne h, snI_ne h]; exact a5 k (by omega)
  · show snI P.2.1 P.1 (p : Int) k < (n : Int) ∧ snI P.2.2.1 P.1 (q : Int) k < (n : Int) ∧ σ 188 (snI P.2.1 P.1 (p : Int) k).toNat < σ 188 (snI P.2.2.1 P.1 (q : Int) k).toNat
    have hk : k < P.1 + 1 := hk
    by_cases h : k = P.1
    · rw [h, snI_eq, snI_eq, Int.toNat_natCast, Int.toNat_natCast]
      exact ⟨by omega, by omega, hlt⟩
    · rw [snI_ne h, snI_ne h]; exact b5 k (by omega)
  · rw [C6_o _ _ _ _ _ (by omega) (by omega), w4]
    show (P.1 : Int) + 1 = ((P.1 + 1 : Nat) : Int)
    omega
  · rw [C6_o _ _ _ _ _ (by omega) (by omega), w5 9 (by omega)]; exact p2
  · have hk : k < P.1 + 1 := hk
    rw [C6_o _ _ _ _ _ (by omega : 7 < 190 ∨ 192 < 7) (by omega), C6_o _ _ _ _ _ (by omega : 8 < 190 ∨ 192 < 8) (by omega), C6_o _ _ _ _ _ (by omega : 9 < 190 ∨ 192 < 9) (by omega), w1, w2, w3, v1, v2, v3, o 11 (by omega) (by omega) (by omega), o 10 (by omega) (by omega) (by omega), o 193 (by omega) (by omega) (by omega), o 194 (by omega) (by omega) (by omega), o 195 (by omega) (by omega) (by omega), o 196 (by omega) (by omega) (by omega)]
    by_cases h : k = P.1
    · rw [h, snI_eq, snI_eq, snI_eq, snI_eq, snI_eq, snI_eq, h5N.1, h5N.2.1, h5N.2.2, hod]
      exact ⟨rfl, rfl, rfl, rfl, rfl⟩
    · rw [snI_ne h, snI_ne h, snI_ne h, snI_ne h, snI_ne h, snI_ne h]; exact p3 k (by omega)
  · rw [o 12 (by omega) (by omega) (by omega), o 13 (by omega) (by omega) (by omega), o 14 (by omega) (by omega) (by omega), o 193 (by omega) (by omega) (by omega), o 194 (by omega) (by omega) (by omega), o 195 (by omega) (by omega) (by omega), o 196 (by omega) (by omega) (by omega)]
    obtain ⟨q1, q2, q3, q4, q5⟩ := p4 j hj
    exact ⟨q1, q2, q3, show σ 194 j < ((P.1 + 1 : Nat) : Int) by omega, q5⟩
  · have h1 : P.1 + 1 ≤ k := h1
    rw [o 193 (by omega) (by omega) (by omega), o 11 (by omega) (by omega) (by omega), o 10 (by omega) (by omega) (by omega)]
    exact p5 k (by omega) h2
/-- the reference's way through a proof's conditions -/
theorem r145 {x y z : Int} (h1 : -2147483648 ≤ x ∧ x ≤ 2147483647) (h2 : -2147483648 ≤ y ∧ y ≤ 2147483647) (h3 : -2147483648 ≤ z ∧ z ≤ 2147483647) (hb : RB σ n nb P ps) : ∀ b1 b2 b3 : Bool, b1 = (decide (0 ≤ x ∧ x < (n : Int)) && decide (0 ≤ y ∧ y < (n : Int))) → b2 = (b1 && (decide (1 ≤ z ∧ z ≤ 9) && decide (σ 188 x.toNat < σ 188 y.toNat))) → b3 = decide (P.1 < 30) → fx_145 x y z σ = fx_145_75 x y z (ib b3) (ib b2) (ib b1) σ := by
  intro b1 b2 b3 hb1 hb2 hb3
  have hn := hb.1
  have h187 := hb.2.1
  have h30 := hb.2.2.1.1
  have h8 := hb.2.2.2.1.1
  have sA : fx_145 x y z σ = fx_145_21 x y z (ib b1) σ := by
    unfold fx_145
    rw [i131 h1 hn h187, gc_v, gq_R (ibR _).1 (ibR _).2]
    cases hx : decide (0 ≤ x ∧ x < (n : Int)) with
    | false => rw [hb1, hx, Bool.false_and, ibF, if_pos rfl]
    | true =>
      rw [hb1, hx, Bool.true_and, ibT, if_neg (by decide), i131 h2 hn h187, gc_v, gq_R (ibR _).1 (ibR _).2]
      cases hy : decide (0 ≤ y ∧ y < (n : Int)) with
      | false => rw [ibF, if_pos rfl]
      | true => rw [ibT, if_neg (by decide)]
  have sB : fx_145_21 x y z (ib b1) σ = fx_145_61 x y z (ib b2) (ib b1) σ := by
    unfold fx_145_21
    rw [gq_R (ibR _).1 (ibR _).2]
    cases b1 with
    | false => rw [ibF, if_pos rfl, hb2, Bool.false_and, ibF]
    | true =>
      have hxn : (0 ≤ x ∧ x < (n : Int)) ∧ (0 ≤ y ∧ y < (n : Int)) := by
        rw [eq_comm, Bool.and_eq_true, decide_eq_true_eq, decide_eq_true_eq] at hb1
        exact hb1
      have h9 := (hb.2.2.2.2.2.2.2.2.1 x.toNat (by omega)).1
      have h9y := (hb.2.2.2.2.2.2.2.2.1 y.toNat (by omega)).1
      rw [ibT, if_neg (by decide), i126 h3 (by omega) (by omega), gc_v, gq_R (ibR _).1 (ibR _).2, hb2, Bool.true_and]
      cases decide (1 ≤ z ∧ z ≤ 9) with
      | false => rw [ibF, if_pos rfl, Bool.false_and, ibF]
      | true =>
        rw [ibT, if_neg (by decide), gq_ix (by omega) (by omega), gq_ix (by omega) (by omega), gq_R (by omega) (by omega), gq_R (by omega) (by omega), Bool.true_and]
        by_cases h : σ 188 x.toNat < σ 188 y.toNat
        · rw [if_pos h, decide_eq_true h, ibT]
        · rw [if_neg h, decide_eq_false h, ibF]
  have sC : fx_145_61 x y z (ib b2) (ib b1) σ = fx_145_75 x y z (ib b3) (ib b2) (ib b1) σ := by
    unfold fx_145_61
    rw [h8, gq_R (by omega) (by omega), hb3]
    by_cases h : P.1 < 30
    · rw [if_pos (by omega), decide_eq_true h, ibT]
    · rw [if_neg (by omega), decide_eq_false h, ibF]
  rw [sA, sB, sC]
theorem r145f {x y z t : Int} {b1 b2 b3 : Bool} (h : (b1 && (b2 && b3)) = false) (ht : (if b1 = true then (if b2 = true then (if b3 = true then (0 : Int) else 3) else 2) else 1) = t) (hst : ST σ n P) (e : fx_145 x y z σ = fx_145_75 x y z (ib b3) (ib b2) (ib b1) σ) : RQ (fx_145 x y z) t 0 n P σ := by
  refine ⟨gb_up σ 187 43 t, ?_, up43_SC t, up43_ST t hst, up_eq _ _ _ _, up_ne _ _ _ _ (by omega)⟩
  rw [e]
  unfold fx_145_75
  rw [i129, gc_v, h, ht]
  exact (gq_R (by decide) (by decide)).trans (if_pos rfl)
/-- the reference's filing -/
def en145 (s : gb_S) (N : Nat) (x y z : Int) : gb_S := gb_up (gb_up (gb_up (gb_up (gb_up s 190 N x) 191 N y) 192 N z) 187 8 ((N : Int) + 1)) 187 29 1
theorem r145y {x y z : Int} {N : Nat} {s1 s5 : gb_S} (hN : N < 30) (e170 : fx_170 (gb_up s1 187 43 0) = some (.inl 0, s5)) (h5 : s5 187 8 = (N : Int)) : fx_145_75 x y z (ib true) (ib true) (ib true) s1 = gc (fx_172 (en145 s5 N x y z)) (fun _ s10 => some (.inl ((s10 187 8) - 1), s10)) := by
  unfold fx_145_75 en145
  rw [i129, gc_v, show (true && (true && true)) = true from rfl, ibT, gq_R (by omega) (by omega), if_neg (by decide), if_pos rfl, if_pos rfl, if_pos rfl, e170, gc_v, h5, gq_ix (by omega) (by omega), Int.toNat_natCast, up_ne _ _ _ _ (by omega : (187 : Nat) ≠ 190), h5, gq_ix (by omega) (by omega), Int.toNat_natCast, up_ne _ _ _ _ (by omega : (187 : Nat) ≠ 191), up_ne _ _ _ _ (by omega : (187 : Nat) ≠ 190), h5, gq_ix (by omega) (by omega), Int.toNat_natCast, up_ne _ _ _ _ (by omega : (187 : Nat) ≠ 192), up_ne _ _ _ _ (by omega : (187 : Nat) ≠ 191), up_ne _ _ _ _ (by omega : (187 : Nat) ≠ 190), h5]
/-- 6: proof -/
theorem uc6 {x y z : Int} (h1 : -2147483648 ≤ x ∧ x ≤ 2147483647) (h2 : -2147483648 ≤ y ∧ y ≤ 2147483647) (h3 : -2147483648 ≤ z ∧ z ≤ 2147483647) (hc : c ≤ 1000) (hi : IV2 c σ n nb nd P ps De Cf) : CM rI c (fx_200 x y z) (fx_145 x y z) σ := by
  have hn := hi.1.1
  have h30 := hi.1.2.2.1.1
  have h23 := hi.2.2.2.1.1
  have h65 := hi.2.2.2.2.1.1
  have hr := r145 h1 h2 h3 hi.1
  by_cases hx : 0 ≤ x ∧ x < (n : Int)
  · have cx : fx_110 x σ = some (.inl 0, σ) := by rw [c110 h1 hn h23, if_pos hx]
    by_cases hy : 0 ≤ y ∧ y < (n : Int)
    · have cy : fx_110 y σ = some (.inl 0, σ) := by rw [c110 h2 hn h23, if_pos hy]
      have hb1 : true = (decide (0 ≤ x ∧ x < (n : Int)) && decide (0 ≤ y ∧ y < (n : Int))) := by rw [decide_eq_true hx, decide_eq_true hy]; rfl
      by_cases hz : 1 ≤ z ∧ z ≤ 9
      · obtain ⟨p, rfl⟩ : ∃ p : Nat, x = (p : Int) := ⟨x.toNat, by omega⟩
        obtain ⟨q, rfl⟩ : ∃ q : Nat, y = (q : Int) := ⟨y.toNat, by omega⟩
        have hp : p < n := by omega
        have hq : q < n := by omega
        have b9p := (hi.1.2.2.2.2.2.2.2.2.1 p hp).1
        have b9q := (hi.1.2.2.2.2.2.2.2.2.1 q hq).1
        have e3p := hi.2.2.2.1.2.2.1 p hp
        have e3q := hi.2.2.2.1.2.2.1 q hq
        have e27 : fx_27 (p : Int) (q : Int) σ = some (.inl (ib (decide (σ 188 p < σ 188 q))), σ) := by
          rw [c27 (by omega) (by omega) (by omega) (by omega), e3p, e3q]
        have pre : fx_85 (p : Int) (q : Int) z σ = (if ib (decide (σ 188 p < σ 188 q)) = 0 then some (.inr 1, σ) else gq (gR (σ 6 5)) (if (σ 6 5) < 30 then gc (fx_59 (p : Int) (q : Int) z σ) (fun r11 s12 => gc (fx_121 s12) (fun r13 s14 => some (.inl r11, s14))) else some (.inr 2, σ))) := by
          unfold fx_85
          rw [cx, gc_v, cy, gc_v, c113 h3 (by omega), if_pos hz, gc_v, e27, gc_v, gq_R (ibR _).1 (ibR _).2]
        by_cases hlt : σ 188 p < σ 188 q
        · have hb2 : true = (true && (decide (1 ≤ z ∧ z ≤ 9) && decide (σ 188 (p : Int).toNat < σ 188 (q : Int).toNat))) := by rw [Int.toNat_natCast, Int.toNat_natCast, decide_eq_true hz, decide_eq_true hlt]; rfl
          by_cases hN : P.1 < 30
          · obtain ⟨hrbC, hpoC⟩ := C6_ok hi hN hp hq hz hlt
            obtain ⟨w1, w2, w3, w4, w5⟩ := en59_v σ P.1 (p : Int) (q : Int) z
            obtain ⟨v1, v2, v3, v4, v5⟩ := C6_v σ P.1 (p : Int) (q : Int) z
            have hC : ∀ c, (c < 6 ∨ 14 < c) → (c < 190 ∨ 196 < c) → c ≠ 187 → C6 σ P.1 (p : Int) (q : Int) z c = σ c := fun c h1 h2 h3 => by rw [C6_o _ _ _ _ _ (by omega) h3, en59_o _ _ _ _ _ (by omega)]
            obtain ⟨s1, e121, hk1⟩ := KUc (sA := en59 σ P.1 (p : Int) (q : Int) z) hi hC hrbC hpoC (fun c k1 k2 => (C6_o _ _ _ _ _ (by omega) (by omega)).symm) (fun c h => en59_o _ _ _ _ _ (by omega))
            have hk1 := hk1 (P.1 : Int)
            have hc1 : fx_200 (p : Int) (q : Int) z σ = some (.inl 0, gb_up s1 224 0 (P.1 : Int)) := by
              unfold fx_200
              rw [pre, decide_eq_true hlt, ibT, if_neg (by decide), h65, gq_R (by omega) (by omega), if_pos (by omega), c59 h65 hN, gc_v, e121, gc_v, gch_v, gq_R (by omega) (by omega)]
            have ho1 : gb_up s1 224 0 (P.1 : Int) 224 0 = (P.1 : Int) := up_eq _ _ _ _
            generalize hs1 : gb_up s1 224 0 (P.1 : Int) = s1' at hk1 hc1 ho1
            obtain ⟨f1, r1, r2, r3, r4, r5⟩ := K1_ref hi hk1
            have h170 := r170 r1 n gFU (gb_up s1' 187 43 0) (Nat.le_refl _) (by unfold gFU; omega) (up43_SC 0) (up43_ST 0 r2) (fun d hd => by omega)
            rw [Nat.sub_self] at h170
            obtain ⟨s5, e5, sc5, st5, t5, o5, q5, u5, k5⟩ := h170
            have e5' : fx_170 (gb_up s1' 187 43 0) = some (.inl 0, s5) := e5
            have h58 : s5 187 8 = (P.1 : Int) := by rw [sc5.2 8 (by omega) (by omega), f1 187 (by omega)]; exact hi.1.2.2.2.1.1
            have hB : ∀ c, c ≠ 187 → (c < 190 ∨ 192 < c) → en145 s5 P.1 (p : Int) (q : Int) z c = s5 c := fun c k1 k2 => by
              unfold en145
              rw [up_ne _ _ _ _ k1, up_ne _ _ _ _ k1, up_ne _ _ _ _ (by omega), up_ne _ _ _ _ (by omega), up_ne _ _ _ _ (by omega)]
            have hs5 : ∀ c, 190 ≤ c → c ≤ 196 → s5 c = σ c := fun c k1 k2 => by rw [sc5.1 c (by unfold scr; omega) (by omega), f1 c (by omega)]
            have hBj : ∀ j, j ≠ 8 → j ≠ 29 → en145 s5 P.1 (p : Int) (q : Int) z 187 j = s5 187 j := fun j k1 k2 => by
              unfold en145
              rw [up_nj _ _ _ _ k2, up_nj _ _ _ _ k1, up_ne _ _ _ _ (by omega), up_ne _ _ _ _ (by omega), up_ne _ _ _ _ (by omega)]
            have hB8 : en145 s5 P.1 (p : Int) (q : Int) z 187 8 = (P.1 : Int) + 1 := by
              unfold en145
              rw [up_nj _ _ _ _ (by omega), up_eq]
            obtain ⟨s2, e2, i2, j2, m1, m2, m3⟩ := KUr (sB := en145 s5 P.1 (p : Int) (q : Int) z) hi hc hk1 hC (v5 3 (by omega)) hrbC hpoC sc5 (fun d hd h1 => by
              have := k5 d hd (by rw [f1 198 (by omega)]; exact h1)
              rw [r5] at this
              exact this) (fun c k1 k2 => hB c k1 (by omega)) (fun c k1 k2 => by
              by_cases h0 : c = 190
              · rw [h0, v1]; unfold en145
                rw [up_ne _ _ _ _ (by omega), up_ne _ _ _ _ (by omega), up_ne _ _ _ _ (by omega), up_ne _ _ _ _ (by omega), up_sn, hs5 190 (by omega) (by omega)]
              · by_cases h1 : c = 191
                · rw [h1, v2]; unfold en145
                  rw [up_ne _ _ _ _ (by omega), up_ne _ _ _ _ (by omega), up_ne _ _ _ _ (by omega), up_sn, up_ne _ _ _ _ (by omega), hs5 191 (by omega) (by omega)]
                · by_cases h2 : c = 192
                  · rw [h2, v3]; unfold en145
                    rw [up_ne _ _ _ _ (by omega), up_ne _ _ _ _ (by omega), up_sn, up_ne _ _ _ _ (by omega), up_ne _ _ _ _ (by omega), hs5 192 (by omega) (by omega)]
                  · rw [hB c (by omega) (by omega), hs5 c k1 k2, C6_o _ _ _ _ _ (by omega) (by omega), en59_o _ _ _ _ _ (by omega)]) (by rw [hB8, v4]) (by rw [hBj 12 (by omega) (by omega), v5 12 (by omega), sc5.2 12 (by omega) (by omega), f1 187 (by omega)]) (by unfold en145; rw [up_eq]) (fun j k1 k2 k3 k4 => hBj j k1 k3)
            have hc2 : fx_145 (p : Int) (q : Int) z s1' = some (.inl (P.1 : Int), s2) := by
              rw [r145 h1 h2 h3 r1 true true true hb1 (by rw [f1 188 (by omega)]; exact hb2) (by rw [decide_eq_true hN]), r145y hN e5' h58, e2, gc_v, j2 8 (by omega), hB8, Int.add_sub_cancel]
            refine ⟨0, s1', (P.1 : Int), s2, hc1, hc2, ?_, fun _ => ?_, by omega, by unfold rI; omega, n, nb, nd, _, ps, De, Cf, i2⟩
            · rw [j2 43 (by omega), hBj 43 (by omega) (by omega), t5, up_eq]
            · rw [m1, o5, up_ne _ _ _ _ (by omega), ho1]
          · refine CM_thr (k := 3) (b := 0) hi ?_ (by omega) (r145f (by rfl) (by rfl) hi.2.1 (hr true true false hb1 hb2 (by rw [decide_eq_false hN]))) (by unfold rI; omega)
            unfold fx_200
            rw [pre, decide_eq_true hlt, ibT, if_neg (by decide), h65, gq_R (by omega) (by omega), if_neg (by omega), gch_e, if_neg (by decide), if_neg (by decide), if_pos rfl]
        · have hb2 : false = (true && (decide (1 ≤ z ∧ z ≤ 9) && decide (σ 188 (p : Int).toNat < σ 188 (q : Int).toNat))) := by rw [Int.toNat_natCast, Int.toNat_natCast, decide_eq_false hlt, Bool.and_false]; rfl
          refine CM_thr (k := 2) (b := 0) hi ?_ (by omega) (r145f (by rfl) (by rfl) hi.2.1 (hr true false _ hb1 hb2 rfl)) (by unfold rI; omega)
          unfold fx_200
          rw [pre, decide_eq_false hlt, ibF, if_pos rfl, gch_e, if_neg (by decide), if_pos rfl]
      · have hb2 : false = (true && (decide (1 ≤ z ∧ z ≤ 9) && decide (σ 188 x.toNat < σ 188 y.toNat))) := by rw [decide_eq_false hz]; rfl
        refine CM_thr (k := 2) (b := 0) hi ?_ (by omega) (r145f (by rfl) (by rfl) hi.2.1 (hr true false _ hb1 hb2 rfl)) (by unfold rI; omega)
        unfold fx_200 fx_85
        rw [cx, gc_v, cy, gc_v, c113 h3 (by omega), if_neg hz, gc_e, gch_e, if_neg (by decide), if_pos rfl]
    · refine CM_thr (k := 1) (b := 0) hi ?_ (by omega) (r145f (by rfl) (by rfl) hi.2.1 (hr false _ _ (by rw [decide_eq_false hy, Bool.and_false]) rfl rfl)) (by unfold rI; omega)
      unfold fx_200 fx_85
      rw [cx, gc_v, c110n h2 hn h23 hy, gc_e, gch_e, if_pos rfl]
  · refine CM_thr (k := 1) (b := 0) hi ?_ (by omega) (r145f (by rfl) (by rfl) hi.2.1 (hr false _ _ (by rw [decide_eq_false hx]; rfl) rfl rfl)) (by unfold rI; omega)
    unfold fx_200 fx_85
    rw [c110n h1 hn h23 hx, gc_e, gch_e, if_pos rfl]
end PF1
