section BA1
/-- an estate of the reference, as kin's mathematics sees it -/
def TP (n : Nat) (P : pT) (q k : Nat) : Bool := decide (q < n) && (decide (k < n) && (decide (F1 P k = (q : Int)) || decide (F2 P k = (q : Int))))
def TA (σ : gb_S) (n d p : Nat) : Bool := decide (p < n) && (if σ 198 d = 0 then decide (σ 189 p = -1) else (decide (σ 200 d ≤ (p : Int)) || bt (σ 199 d) p))
def TT (σ : gb_S) (n : Nat) (P : pT) (d : Nat) : kT := (n, fun i => (σ 210 i).toNat, TP n P, TA σ n d, fun p => decide (σ 188 p ≤ σ 189 d), d)
def ww (σ : gb_S) (d p : Nat) : Int := σ 197 (14 * d + p)
/-- the share of p in the estate of d, by the books of the reference -/
def Rd (σ : gb_S) (n : Nat) (P : pT) (d : Nat) : Nat → Rat := Rs (TT σ n P d) (ww σ d)
/-- the reference's books: people, kin, wills, closings -/
def RB (σ : gb_S) (n nd : Nat) (P : pT) (ps : Nat → Nat) : Prop := n ≤ 14 ∧ σ 187 3 = (n : Int) ∧ PH P ∧ PR σ nd P ∧ (∀ k, k < P.1 → P.2.1 k < (n : Int) ∧ P.2.2.1 k < (n : Int) ∧ σ 188 (P.2.1 k).toNat < σ 188 (P.2.2.1 k).toNat) ∧ (∀ i, i < n → 0 ≤ σ 210 i ∧ (σ 210 i).toNat < n ∧ ps (σ 210 i).toNat = i) ∧ (∀ p, p < n → ps p < n ∧ (σ 210 (ps p)).toNat = p) ∧ (∀ i j, i < j → j < n → σ 188 (σ 210 i).toNat ≤ σ 188 (σ 210 j).toNat) ∧ (∀ p, p < n → (0 ≤ σ 188 p ∧ σ 188 p ≤ 2000) ∧ (-1 ≤ σ 189 p ∧ σ 189 p ≤ 2000)) ∧ (∀ d, d < n → (σ 198 d = 0 ∨ σ 198 d = 1) ∧ (0 ≤ σ 200 d ∧ σ 200 d ≤ 14)) ∧ (∀ d p, d < 14 → p < 14 → (0 ≤ ww σ d p ∧ ww σ d p ≤ 9) ∧ (n ≤ p → ww σ d p = 0))
/-- findsKin has its rows right, or finds them anew -/
def ST (σ : gb_S) (n : Nat) (P : pT) : Prop := (σ 187 29 = 0 ∧ KF σ n P) ∨ σ 187 29 = 1
theorem PR_cong {σ σ' : gb_S} {nd : Nat} {P : pT} (h8 : σ' 187 8 = σ 187 8) (h12 : σ' 187 12 = σ 187 12) (h : ∀ c, 190 ≤ c → c ≤ 196 → σ' c = σ c) (hp : PR σ nd P) : PR σ' nd P := by
  unfold PR
  rw [h8, h12, h 190 (by omega) (by omega), h 191 (by omega) (by omega), h 192 (by omega) (by omega), h 193 (by omega) (by omega), h 194 (by omega) (by omega), h 195 (by omega) (by omega), h 196 (by omega) (by omega)]
  exact hp
theorem TT_cong {σ σ' : gb_S} (h : ∀ c, c = 188 ∨ c = 189 ∨ c = 198 ∨ c = 199 ∨ c = 200 ∨ c = 210 → σ' c = σ c) (n : Nat) (P : pT) (d : Nat) : TT σ' n P d = TT σ n P d := by
  unfold TT TA
  rw [h 188 (by simp), h 189 (by simp), h 198 (by simp), h 199 (by simp), h 200 (by simp), h 210 (by simp)]
theorem Rd_cong {σ σ' : gb_S} (h : ∀ c, c = 188 ∨ c = 189 ∨ c = 197 ∨ c = 198 ∨ c = 199 ∨ c = 200 ∨ c = 210 → σ' c = σ c) (n : Nat) (P : pT) (d : Nat) : Rd σ' n P d = Rd σ n P d := by
  unfold Rd ww
  rw [TT_cong (fun c hc => h c (by rcases hc with h | h | h | h | h | h <;> simp [h])) n P d, h 197 (by simp)]
theorem RB_cong {σ σ' : gb_S} {n nd : Nat} {P : pT} {ps : Nat → Nat} (hj : ∀ j, j = 3 ∨ j = 8 ∨ j = 12 → σ' 187 j = σ 187 j) (h : ∀ c, (188 ≤ c ∧ c ≤ 200) ∨ c = 210 → σ' c = σ c) (hb : RB σ n nd P ps) : RB σ' n nd P ps := by
  obtain ⟨b1, b2, b3, b4, b5, b6, b7, b8, b9, b10, b11⟩ := hb
  refine ⟨b1, by rw [hj 3 (by simp)]; exact b2, b3, PR_cong (hj 8 (by simp)) (hj 12 (by simp)) (fun c h1 h2 => h c (by omega)) b4, by rw [h 188 (by omega)]; exact b5, by rw [h 210 (by omega)]; exact b6, by rw [h 210 (by omega)]; exact b7, by rw [h 210 (by omega), h 188 (by omega)]; exact b8, by rw [h 188 (by omega), h 189 (by omega)]; exact b9, by rw [h 198 (by omega), h 200 (by omega)]; exact b10, ?_⟩
  unfold ww
  rw [h 197 (by omega)]
  exact b11
variable {σ : gb_S} {n nd : Nat} {P : pT} {ps : Nat → Nat}
theorem ct_two {g : Nat → Nat} {a b : Int} : ∀ {m : Nat}, (∀ i j, i < m → j < m → g i = g j → i = j) → ct (fun j => decide (a = (g j : Int)) || decide (b = (g j : Int))) m ≤ 2 := by
  have one : ∀ (a : Int) {m : Nat}, (∀ i j, i < m → j < m → g i = g j → i = j) → ct (fun j => decide (a = (g j : Int))) m ≤ 1 := by
    intro a m
    induction m with
    | zero => intro _; exact Nat.zero_le _
    | succ m ih =>
      intro h
      rw [ct]
      by_cases hm : a = (g m : Int)
      · have : ct (fun j => decide (a = (g j : Int))) m = 0 := ct_zero (fun i hi => decide_eq_false (fun q => by
          have := h i m (by omega) (by omega) (by omega)
          omega))
        rw [this, decide_eq_true hm]
        exact Nat.le_refl _
      · rw [decide_eq_false hm, if_neg (by decide)]
        exact ih (fun i j hi hj => h i j (by omega) (by omega))
  intro m h
  have h1 := one a h
  have h2 := one b h
  have h3 : ∀ m, ct (fun j => decide (a = (g j : Int)) || decide (b = (g j : Int))) m ≤ ct (fun j => decide (a = (g j : Int))) m + ct (fun j => decide (b = (g j : Int))) m := by
    intro m
    induction m with
    | zero => exact Nat.le_refl _
    | succ m ih =>
      rw [ct, ct, ct]
      cases decide (a = (g m : Int)) <;> cases decide (b = (g m : Int)) <;> simp <;> omega
  have := h3 m
  omega
theorem F1_mem (hb : RB σ n nd P ps) {k q : Nat} (h : F1 P k = (q : Int)) : q < n ∧ k < n ∧ σ 188 q < σ 188 k := by
  obtain ⟨b1, b2, b3, b4, b5, b6, b7, b8, b9, b10, b11⟩ := hb
  obtain ⟨j, hj, h1, h2⟩ := pS_mem (F1_pos b3 (c := k) (by omega))
  have := b5 j hj
  have h3 : (F1 P k).toNat = q := by omega
  rw [h3] at h2
  rw [h1, h2, Int.toNat_natCast, Int.toNat_natCast] at this
  omega
theorem F2_mem (hb : RB σ n nd P ps) {k q : Nat} (h : F2 P k = (q : Int)) : q < n ∧ k < n ∧ σ 188 q < σ 188 k := by
  obtain ⟨b1, b2, b3, b4, b5, b6, b7, b8, b9, b10, b11⟩ := hb
  obtain ⟨j, hj, h1, h2⟩ := pS_mem (F2_pos b3 (c := k) (by omega))
  have := b5 j hj
  have h3 : (F2 P k).toNat = q := by omega
  rw [h3] at h2
  rw [h1, h2, Int.toNat_natCast, Int.toNat_natCast] at this
  omega
/-- the hypotheses of kin's mathematics hold for every estate -/
theorem TT_KH (hb : RB σ n nd P ps) {d : Nat} (hd : d < n) : KH (TT σ n P d) ps := by
  obtain ⟨b1, b2, b3, b4, b5, b6, b7, b8, b9, b10, b11⟩ := id hb
  refine ⟨b1, hd, fun i hi => ⟨(b6 i hi).2.1, (b6 i hi).2.2⟩, fun p hp => b7 p hp, fun q k h => ?_, fun k hk => ?_⟩
  · have h : TP n P q k = true := h
    unfold TP at h
    rw [Bool.and_eq_true, Bool.and_eq_true, decide_eq_true_eq, decide_eq_true_eq] at h
    refine ⟨h.1, h.2.1, ?_⟩
    have hlt : σ 188 q < σ 188 k := by
      have := h.2.2
      rw [Bool.or_eq_true, decide_eq_true_eq, decide_eq_true_eq] at this
      rcases this with h | h
      · exact (F1_mem hb h).2.2
      · exact (F2_mem hb h).2.2
    have hq := b7 q h.1
    have hk := b7 k h.2.1
    refine Nat.lt_of_not_le (fun hle => ?_)
    by_cases he : ps k = ps q
    · have e1 := hq.2
      have e2 := hk.2
      rw [he] at e2
      have : q = k := by rw [← e1, ← e2]
      rw [this] at hlt
      omega
    · have := b8 (ps k) (ps q) (by omega) hq.1
      rw [hk.2, hq.2] at this
      omega
  · have h2 := ct_two (g := fun j => (σ 210 j).toNat) (a := F1 P k) (b := F2 P k) (m := n) (fun i j hi hj he => by
      have e1 := (b6 i hi).2.2
      have e2 := (b6 j hj).2.2
      rw [he] at e1
      omega)
    refine Nat.le_trans (ct_mono (fun j hj h => ?_)) h2
    have h : TP n P ((σ 210 j).toNat) k = true := h
    unfold TP at h
    rw [Bool.and_eq_true, Bool.and_eq_true] at h
    exact h.2.2
/-- behind findsKin, the books are those of every estate -/
theorem TT_RF {s0 : gb_S} (hb : RB σ n nd P ps) (hk : KF s0 n P) (h187 : ∀ j, j ≠ 29 → s0 187 j = σ 187 j) (h : ∀ c, c ≠ 187 → c ≠ 211 → c ≠ 212 → c ≠ 213 → s0 c = σ c) {d : Nat} (hd : d < n) : RF s0 (TT σ n P d) (ww σ d) := by
  obtain ⟨b1, b2, b3, b4, b5, b6, b7, b8, b9, b10, b11⟩ := id hb
  have e188 : s0 188 = σ 188 := h 188 (by omega) (by omega) (by omega) (by omega)
  have e189 : s0 189 = σ 189 := h 189 (by omega) (by omega) (by omega) (by omega)
  have e197 : s0 197 = σ 197 := h 197 (by omega) (by omega) (by omega) (by omega)
  have e198 : s0 198 = σ 198 := h 198 (by omega) (by omega) (by omega) (by omega)
  have e199 : s0 199 = σ 199 := h 199 (by omega) (by omega) (by omega) (by omega)
  have e200 : s0 200 = σ 200 := h 200 (by omega) (by omega) (by omega) (by omega)
  have e210 : s0 210 = σ 210 := h 210 (by omega) (by omega) (by omega) (by omega)
  unfold RF
  rw [e188, e189, e197, e198, e199, e200, e210, h187 3 (by omega)]
  refine ⟨b2, fun i hi => ?_, fun p hp => ⟨(b9 p hp).1, (b9 p hp).2, rfl⟩, (b10 d hd).1, (b10 d hd).2, fun p hp => ?_, fun p hp => ⟨rfl, (b11 d p (by omega) (by have : p < n := hp; omega)).1⟩, fun k hk2 => ?_, fun q k hq hk2 => ?_⟩
  · show σ 210 i = (((σ 210 i).toNat : Nat) : Int)
    have := b6 i hi
    omega
  · show TA σ n d p = _
    unfold TA
    rw [decide_eq_true (show p < n from hp), Bool.true_and]
    rfl
  · have hk3 : k < n := hk2
    rw [(hk k hk3).1, (hk k hk3).2]
    have h1 := F1_b b3 k
    have h2 := F2_b b3 k
    refine ⟨h1.1, ?_, h2.1, ?_⟩
    · show F1 P k < (n : Int)
      refine Int.lt_of_not_ge (fun hge => ?_)
      have := (F1_mem hb (k := k) (q := (F1 P k).toNat) (by omega)).1
      omega
    · show F2 P k < (n : Int)
      refine Int.lt_of_not_ge (fun hge => ?_)
      have := (F2_mem hb (k := k) (q := (F2 P k).toNat) (by omega)).1
      omega
  · show TP n P q k = _
    unfold TP
    rw [(hk k hk2).1, (hk k hk2).2, decide_eq_true (show q < n from hq), decide_eq_true (show k < n from hk2)]
    rfl
/-- the reference finds the shares of an estate -/
theorem gR168 (hb : RB σ n nd P ps) (hst : ST σ n P) {d : Nat} (hd : d < n) : ∃ σ', fx_168 (d : Int) σ = some (.inl 0, σ') ∧ cs σ' n (Rd σ n P d) ∧ (∀ j, j ≠ 29 → σ' 187 j = σ 187 j) ∧ σ' 187 29 = 0 ∧ KF σ' n P ∧ ∀ c, c ≠ 187 → (c < 211 ∨ 219 < c) → σ' c = σ c := by
  obtain ⟨b1, b2, b3, b4, b5, b6, b7, b8, b9, b10, b11⟩ := id hb
  obtain ⟨s0, e0, k0, z0, j0, f0⟩ := g143 b1 b3 (fun k hk => (b5 k hk).1) b2 b4 hst
  obtain ⟨s1, e1, c1, f1⟩ := g168 (TT_KH hb hd) e0 (TT_RF hb k0 j0 f0 hd)
  refine ⟨s1, e1, c1, fun j hj => by rw [f1 187 (by omega)]; exact j0 j hj, by rw [f1 187 (by omega)]; exact z0, ?_, fun c h1 h2 => ?_⟩
  · unfold KF
    rw [f1 212 (by omega), f1 213 (by omega)]
    exact k0
  · rw [f1 c (by omega), f0 c h1 (by omega) (by omega) (by omega)]
theorem iq_zn {x : Rat} {D E : Nat} (h : iq x D) : iq x (D * E) := iq_mul E h
theorem Rs_den {T : kT} {w : Nat → Int} (H : KH T ps) (hw : ∀ p, p < kn T → 0 ≤ w p ∧ w p ≤ 9) (p : Nat) : (Rs T w p).den ≤ 1000000000 := by
  have hW0 : 0 ≤ Ws T w := Ws_nonneg (fun p hp => (hw p hp).1)
  have hW1 : Ws T w ≤ 126 := Ws_le H hw
  have hpt : pt T w = 1 ∨ pt T w = 2 := pt_or
  have hK := cur_b H (i := kn T) (p := p) (Nat.le_refl _)
  -- a denominator of the will's part
  obtain ⟨D1, hD1, hD1b, hi1⟩ : ∃ D1 : Nat, 0 < D1 ∧ D1 ≤ 252 ∧ iq (Rw T w p) D1 := by
    unfold Rw
    by_cases h : 0 < Ws T w ∧ ka T p = true
    · rw [if_pos h]
      refine ⟨(Ws T w).toNat * pt T w, Nat.mul_pos (by omega) (by omega), ?_, ⟨w p, ?_⟩⟩
      · exact Nat.mul_le_mul (show (Ws T w).toNat ≤ 126 by omega) (show pt T w ≤ 2 by omega)
      · have e1 : (((Ws T w * (pt T w : Int)) : Int) : Rat) = ((((Ws T w).toNat * pt T w : Nat)) : Rat) := by
          rw [← Rat.intCast_natCast, Int.natCast_mul, Int.toNat_of_nonneg hW0]
        rw [e1]
        have hpos : 0 < (Ws T w).toNat * pt T w := Nat.mul_pos (by omega) (by omega)
        exact Rat.div_mul_cancel (fun q => by have := Rat.natCast_eq_zero_iff.mp q; omega)
    · rw [if_neg h]
      exact ⟨1, by omega, by omega, iq_zero 1⟩
  obtain ⟨D2, hD2, hD2b, hi2⟩ : ∃ D2 : Nat, 0 < D2 ∧ D2 ≤ 800000 ∧ iq (Rk T w p) D2 := by
    unfold Rk
    by_cases h : (hk T w && ka T p) = true
    · rw [if_pos h]
      by_cases hp : p < kn T
      · rw [KK_eq H hp]
        generalize cur T (kn T) p = x at hK
        have hd0 := x.den_pos
        refine ⟨x.den * pt T w, Nat.mul_pos hd0 (by omega), Nat.mul_le_mul hK.2.2 (show pt T w ≤ 2 by omega), ⟨x.num, ?_⟩⟩
        have h2 : ((pt T w : Nat) : Rat) ≠ 0 := fun q => by have := Rat.natCast_eq_zero_iff.mp q; omega
        rw [Rat.natCast_mul, ← nd_mul x]
        have := Rat.div_mul_cancel (a := x) h2
        grind
      · have : KK T p = 0 := by
          unfold KK
          rw [Kf]
          have h1 : hdv T p = 0 := hdv_big H (by omega)
          rw [h1, su_zero]
          · grind
          · intro j _
            rw [if_neg]
            intro hh
            rw [Bool.and_eq_true] at hh
            have := H.2.2.2.2.1 _ _ hh.1
            omega
        rw [this, Rat.div_def, Rat.zero_mul]
        exact ⟨1, by omega, by omega, iq_zero 1⟩
    · rw [if_neg h]
      exact ⟨1, by omega, by omega, iq_zero 1⟩
  have hi : iq (Rs T w p) (D1 * D2) := by
    unfold Rs
    refine iq_add (iq_mul D2 hi1) ?_
    rw [Nat.mul_comm]
    exact iq_mul D1 hi2
  have h3 := iq_den (Nat.mul_pos hD1 hD2) hi
  have h4 : D1 * D2 ≤ 252 * 800000 := Nat.mul_le_mul hD1b hD2b
  omega
/-- shares are small; all or none -/
theorem Rd_SR (hb : RB σ n nd P ps) {d : Nat} (hd : d < n) : SR n (Rd σ n P d) := by
  obtain ⟨b1, b2, b3, b4, b5, b6, b7, b8, b9, b10, b11⟩ := id hb
  have H := TT_KH hb hd
  have hw : ∀ p, p < n → 0 ≤ ww σ d p ∧ ww σ d p ≤ 9 := fun p hp => (b11 d p (by omega) (by omega)).1
  have hz : ∀ p, n ≤ p → Rd σ n P d p = 0 := fun p hp => by
    have ha : ka (TT σ n P d) p = false := by
      show TA σ n d p = false
      unfold TA
      rw [decide_eq_false (by omega)]; rfl
    unfold Rd Rs Rw Rk
    rw [ha, if_neg (fun q => by cases q.2), Bool.and_false, if_neg (by decide)]
    grind
  refine ⟨fun p => ?_, hz, Rs_sum H⟩
  by_cases hp : p < n
  · exact ⟨Rs_nonneg (T := TT σ n P d) (w := ww σ d) (fun p hp => (hw p hp).1) hp, Rs_le H (fun p hp => (hw p hp).1) hp, Rs_den H hw p⟩
  · rw [hz p (by omega)]
    exact ⟨by decide, by decide, by decide⟩
end BA1
