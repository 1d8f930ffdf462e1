section KI1
/-- proofs: how many, parents, children, strengths -/
abbrev pT : Type := Nat × (Nat → Int) × (Nat → Int) × (Nat → Int)
def Sx (pa ch st : Nat → Int) (c p : Int) : Nat → Int
  | 0 => 0
  | m + 1 => if ch m = c ∧ pa m = p then max (Sx pa ch st c p m) (st m) else Sx pa ch st c p m
/-- the strength with which p is a parent of c -/
def pS (P : pT) (c p : Nat) : Int := Sx P.2.1 P.2.2.1 P.2.2.2 (c : Int) (p : Int) P.1
/-- the strongest of the first m, but one -/
def bs (S : Nat → Int) (ex : Int) : Nat → Int × Int
  | 0 => (-1, 0)
  | m + 1 => if ¬ ((m : Int) = ex) ∧ (bs S ex m).2 < S m then ((m : Int), S m) else bs S ex m
def F1 (P : pT) (c : Nat) : Int := (bs (pS P c) (-1) 14).1
def F2 (P : pT) (c : Nat) : Int := (bs (pS P c) (F1 P c) 14).1
def PH (P : pT) : Prop := P.1 ≤ 30 ∧ ∀ k, k < P.1 → (0 ≤ P.2.1 k ∧ P.2.1 k < 14) ∧ (0 ≤ P.2.2.1 k ∧ P.2.2.1 k < 14) ∧ (0 ≤ P.2.2.2 k ∧ P.2.2.2 k ≤ 9)
theorem Sx_b {pa ch st : Nat → Int} {c p : Int} : ∀ {m : Nat}, (∀ k, k < m → 0 ≤ st k ∧ st k ≤ 9) → 0 ≤ Sx pa ch st c p m ∧ Sx pa ch st c p m ≤ 9 := by
  intro m
  induction m with
  | zero => intro _; rw [Sx]; omega
  | succ m ih =>
    intro h
    rw [Sx]
    have h1 := ih (fun k hk => h k (by omega))
    have h2 := h m (by omega)
    split <;> omega
theorem pS_b {P : pT} (h : PH P) (c p : Nat) : 0 ≤ pS P c p ∧ pS P c p ≤ 9 := Sx_b (fun k hk => (h.2 k hk).2.2)
theorem Sx_congr {pa ch st pa' ch' st' : Nat → Int} {c p : Int} : ∀ {m : Nat}, (∀ k, k < m → pa k = pa' k ∧ ch k = ch' k ∧ st k = st' k) → Sx pa ch st c p m = Sx pa' ch' st' c p m := by
  intro m
  induction m with
  | zero => intro _; rfl
  | succ m ih =>
    intro h
    have h1 := h m (by omega)
    rw [Sx, Sx, ih (fun k hk => h k (by omega)), h1.1, h1.2.1, h1.2.2]
theorem Sx_none {pa ch st : Nat → Int} {c p : Int} : ∀ {m : Nat}, (∀ k, k < m → ¬ (ch k = c ∧ pa k = p)) → Sx pa ch st c p m = 0 := by
  intro m
  induction m with
  | zero => intro _; rfl
  | succ m ih => intro h; rw [Sx, if_neg (h m (by omega)), ih (fun k hk => h k (by omega))]
variable {S : Nat → Int}
theorem bs_ok (ex : Int) : ∀ m : Nat, (∀ p, p < m → 0 ≤ S p) → ((bs S ex m).1 = -1 ∧ (bs S ex m).2 = 0) ∨ (0 ≤ (bs S ex m).1 ∧ (bs S ex m).1 < (m : Int) ∧ (bs S ex m).1 ≠ ex ∧ (bs S ex m).2 = S (bs S ex m).1.toNat ∧ 0 < (bs S ex m).2) := by
  intro m
  induction m with
  | zero => intro _; left; exact ⟨rfl, rfl⟩
  | succ m ih =>
    intro h
    have ih := ih (fun p hp => h p (by omega))
    rw [bs]
    by_cases hc : ¬ ((m : Int) = ex) ∧ (bs S ex m).2 < S m
    · rw [if_pos hc]
      right
      refine ⟨by omega, by omega, hc.1, by rw [Int.toNat_natCast], ?_⟩
      rcases ih with h1 | h1 <;> omega
    · rw [if_neg hc]
      rcases ih with h1 | h1
      · exact Or.inl h1
      · exact Or.inr ⟨h1.1, by omega, h1.2.2⟩
theorem bs_nn (ex : Int) (m : Nat) (h : ∀ p, p < m → 0 ≤ S p) : 0 ≤ (bs S ex m).2 := by rcases bs_ok ex m h with h1 | h1 <;> omega
theorem bs_ex {ex ex' : Int} : ∀ {m : Nat}, (ex < 0 ∨ (m : Int) ≤ ex) → (ex' < 0 ∨ (m : Int) ≤ ex') → bs S ex m = bs S ex' m := by
  intro m
  induction m with
  | zero => intro _ _; rfl
  | succ m ih =>
    intro h1 h2
    rw [bs, bs, ih (by omega) (by omega)]
    have e1 : ¬ ((m : Int) = ex) := by omega
    have e2 : ¬ ((m : Int) = ex') := by omega
    simp only [e1, e2]
theorem bs_late {ex : Int} {n : Nat} (hz : ∀ p, n ≤ p → S p = 0) (h : ∀ p, 0 ≤ S p) : ∀ {m : Nat}, n ≤ m → bs S ex m = bs S ex n := by
  intro m
  induction m with
  | zero => intro hm; rw [show n = 0 by omega]
  | succ m ih =>
    intro hm
    by_cases hq : n = m + 1
    · rw [hq]
    · rw [bs, if_neg, ih (by omega)]
      rintro ⟨_, h2⟩
      rw [hz m (by omega)] at h2
      have := bs_nn (S := S) ex m (fun p _ => h p)
      omega
theorem bs_congr {S' : Nat → Int} {ex : Int} : ∀ {m : Nat}, (∀ p, p < m → S p = S' p) → bs S ex m = bs S' ex m := by
  intro m
  induction m with
  | zero => intro _; rfl
  | succ m ih => intro h; rw [bs, bs, ih (fun p hp => h p (by omega)), h m (by omega)]
variable {P : pT}
theorem F1_b (h : PH P) (c : Nat) : -1 ≤ F1 P c ∧ F1 P c < 14 := by
  have := bs_ok (S := pS P c) (-1) 14 (fun p _ => (pS_b h c p).1)
  unfold F1
  omega
theorem F2_b (h : PH P) (c : Nat) : -1 ≤ F2 P c ∧ F2 P c < 14 ∧ (F1 P c = F2 P c → F1 P c = -1) := by
  have := bs_ok (S := pS P c) (F1 P c) 14 (fun p _ => (pS_b h c p).1)
  unfold F2
  omega
/-- only those with a proof are parents -/
theorem F1_pos (h : PH P) {c : Nat} (hc : 0 ≤ F1 P c) : 0 < pS P c (F1 P c).toNat := by
  rcases bs_ok (S := pS P c) (-1) 14 (fun p _ => (pS_b h c p).1) with h1 | h1
  · unfold F1 at hc; omega
  · unfold F1; omega
theorem F2_pos (h : PH P) {c : Nat} (hc : 0 ≤ F2 P c) : 0 < pS P c (F2 P c).toNat := by
  rcases bs_ok (S := pS P c) (F1 P c) 14 (fun p _ => (pS_b h c p).1) with h1 | h1
  · unfold F2 at hc; omega
  · unfold F2; omega
theorem pS_mem {c p : Nat} (h : 0 < pS P c p) : ∃ k, k < P.1 ∧ P.2.2.1 k = (c : Int) ∧ P.2.1 k = (p : Int) := by
  refine Classical.byContradiction (fun hn => ?_)
  have : pS P c p = 0 := Sx_none (fun k hk hh => hn ⟨k, hk, hh⟩)
  omega
/-- the class's books of proofs are P, one of them left out -/
def PC (σ : gb_S) (x : Int) (P : pT) : Prop := σ 6 5 = (P.1 : Int) ∧ ∀ k, k < P.1 → σ 7 k = P.2.1 k ∧ σ 8 k = P.2.2.1 k ∧ (0 ≤ σ 9 k ∧ σ 9 k ≤ 9) ∧ (0 ≤ σ 10 k ∧ σ 10 k ≤ 1000) ∧ (σ 11 k = 0 ∨ σ 11 k = 1) ∧ P.2.2.2 k = (if (k : Int) = x then 0 else if σ 11 k = 0 then max 0 (σ 9 k - σ 10 k) else 0)
theorem PC_cong {σ σ' : gb_S} {x : Int} (h : ∀ c, 6 ≤ c ∧ c ≤ 11 → σ' c = σ c) (hp : PC σ x P) : PC σ' x P := by
  unfold PC
  rw [h 6 (by omega), h 7 (by omega), h 8 (by omega), h 9 (by omega), h 10 (by omega), h 11 (by omega)]
  exact hp
variable {σ : gb_S} {a : Nat} {x : Int}
theorem g63 {k : Nat} (hk : k < P.1) (hP : P.1 ≤ 30) (h65 : σ 6 5 = (P.1 : Int)) : fx_63 (k : Int) σ = some (.inl 1, σ) := by
  unfold fx_63
  rw [gq_R (by omega) (by omega), if_neg (by omega), gq_R (by omega) (by omega), if_pos (by omega)]
theorem g67 (hH : PH P) (hp : PC σ x P) {k : Nat} (hk : k < P.1) : fx_67 (k : Int) σ = some (.inl (if σ 11 k = 0 then max 0 (σ 9 k - σ 10 k) else 0), σ) := by
  have h1 := hH.1
  have h2 := hp.2 k hk
  unfold fx_67
  rw [g63 hk h1 hp.1, gc_v, gq_R (by omega) (by omega), if_neg (by omega), gq_ix (by omega) (by omega), Int.toNat_natCast, gq_R (by omega) (by omega)]
  by_cases h0 : σ 11 k = 0
  · rw [if_pos h0, if_pos h0, gq_R (by omega) (by omega)]
  · rw [if_neg h0, if_neg h0]
/-- the strengths of those who have a proof -/
theorem g36_11 (hH : PH P) (hx : -1 ≤ x ∧ x < 30) (ha : a = 15 ∨ a = 20) {c : Nat} (hc : c < 14) : ∀ (m k : Nat) (σ : gb_S), m ≤ P.1 → m < k → PC σ x P → (∀ p, p < 14 → σ (a + 4) p = Sx P.2.1 P.2.2.1 P.2.2.2 (c : Int) (p : Int) (P.1 - m)) → ∃ σ', fx_36_11 k a (c : Int) x ((P.1 - m : Nat) : Int) σ = some (.inl 0, σ') ∧ (∀ p, p < 14 → σ' (a + 4) p = pS P c p) ∧ ∀ cc, cc ≠ a + 4 → σ' cc = σ cc := by
  have h30 := hH.1
  intro m
  induction m with
  | zero =>
    intro k σ _ hk hp hs
    obtain ⟨k, rfl⟩ : ∃ q, k = q + 1 := ⟨k - 1, by omega⟩
    have h65 := hp.1
    refine ⟨σ, ?_, hs, fun _ _ => rfl⟩
    rw [fx_36_11, gq_R (by omega) (by omega), gq_R (by omega) (by omega), if_neg (by omega)]
  | succ m ih =>
    intro k σ hm hk hp hs
    obtain ⟨k, rfl⟩ : ∃ q, k = q + 1 := ⟨k - 1, by omega⟩
    have h65 := hp.1
    generalize hi : P.1 - (m + 1) = i
    rw [hi] at hs
    have hi2 : P.1 - m = i + 1 := by omega
    rw [hi2] at ih
    have hiP : i < P.1 := by omega
    have hH2 := hH.2 i hiP
    have hp2 := hp.2 i hiP
    have hsb : ∀ p : Nat, 0 ≤ Sx P.2.1 P.2.2.1 P.2.2.2 (c : Int) (p : Int) i ∧ Sx P.2.1 P.2.2.1 P.2.2.2 (c : Int) (p : Int) i ≤ 9 := fun p => Sx_b (fun k hk => (hH.2 k (by omega)).2.2)
    have hskip : (P.2.2.1 i ≠ (c : Int) ∨ P.2.2.2 i = 0) → ∃ σ', fx_36_11 k a (c : Int) x ((i + 1 : Nat) : Int) σ = some (.inl 0, σ') ∧ (∀ p, p < 14 → σ' (a + 4) p = pS P c p) ∧ ∀ cc, cc ≠ a + 4 → σ' cc = σ cc := by
      intro h
      refine ih k σ (by omega) (by omega) hp (fun p hp14 => ?_)
      rw [hs p hp14, Sx]
      have := hsb p
      split
      · rcases h with h | h <;> omega
      · rfl
    rw [fx_36_11, gq_R (by omega) (by omega), gq_R (by omega) (by omega), if_pos (by omega), gq_ix (by omega) (by omega), Int.toNat_natCast, hp2.2.1, gq_R (by omega) (by omega), gq_R (by omega) (by omega), show ((i : Nat) : Int) + 1 = ((i + 1 : Nat) : Int) by omega]
    by_cases h1 : P.2.2.1 i = (c : Int)
    · rw [if_pos h1, gq_R (by omega) (by omega)]
      by_cases h2 : (i : Int) = x
      · rw [if_pos h2]
        refine hskip (Or.inr ?_)
        rw [hp2.2.2.2.2.2, if_pos h2]
      · rw [if_neg h2, hp2.1, gq_R (by omega) (by omega), if_neg (by omega), if_pos (by omega), gq_ix (by omega) (by omega), g67 hH hp hiP, gc_v, hs _ (by omega)]
        have hst : (if σ 11 i = 0 then max 0 (σ 9 i - σ 10 i) else 0) = P.2.2.2 i := by rw [hp2.2.2.2.2.2, if_neg h2]
        have hb := hsb (P.2.1 i).toNat
        rw [hst, gq_R (by omega) (by omega), gq_R (by omega) (by omega)]
        obtain ⟨s2, e2, b2, f2⟩ := ih k (gb_up σ (a + 4) (P.2.1 i).toNat (max (Sx P.2.1 P.2.2.1 P.2.2.2 (c : Int) (((P.2.1 i).toNat : Nat) : Int) i) (P.2.2.2 i))) (by omega) (by omega) (PC_cong (fun c hc => up_ne _ _ _ _ (by omega)) hp) (fun p hp14 => by
          rw [Sx]
          by_cases hpp : p = (P.2.1 i).toNat
          · rw [hpp, up_eq, if_pos ⟨h1, by omega⟩]
          · rw [up_nj _ _ _ _ hpp, hs p hp14, if_neg (fun q => hpp (by omega))])
        exact ⟨s2, e2, b2, fun cc hcc => by rw [f2 cc hcc, up_ne _ _ _ _ hcc]⟩
    · rw [if_neg h1]
      exact hskip (Or.inl h1)
theorem g36 (hH : PH P) (hx : -1 ≤ x ∧ x < 30) (ha : a = 15 ∨ a = 20) {c : Nat} (hc : c < 14) (hp : PC σ x P) : ∃ σ', fx_36 a (c : Int) x σ = some (.inl 0, σ') ∧ (∀ p, p < 14 → σ' (a + 4) p = pS P c p) ∧ ∀ cc, cc ≠ a + 4 → σ' cc = σ cc := by
  obtain ⟨s1, e1, b1, f1⟩ := g36_11 hH hx ha hc P.1 gFU (gb_fi σ (a + 4) 0) (Nat.le_refl _) (by have := hH.1; unfold gFU; omega) (PC_cong (fun c hc => fi_ne _ _ _ (by omega)) hp) (fun p _ => by rw [fi_eq, Nat.sub_self]; rfl)
  rw [Nat.sub_self] at e1
  exact ⟨s1, e1, b1, fun cc hcc => by rw [f1 cc hcc, fi_ne _ _ _ hcc]⟩
theorem g37 {S : Nat → Int} (hS : ∀ p, p < 14 → σ (a + 4) p = S p ∧ 0 ≤ S p ∧ S p ≤ 9) {ex : Int} (hx : -1 ≤ ex ∧ ex < 14) : fx_37 a ex σ = some (.inl (bs S ex 14).1, σ) := by
  have key : ∀ (m k : Nat), m ≤ 14 → m < k → fx_37_7 k a ex (bs S ex (14 - m)).1 (bs S ex (14 - m)).2 ((14 - m : Nat) : Int) σ = some (.inl (bs S ex 14).1, σ) := by
    intro m
    induction m with
    | zero =>
      intro k _ hk
      obtain ⟨k, rfl⟩ : ∃ q, k = q + 1 := ⟨k - 1, by omega⟩
      rw [fx_37_7, gq_R (by omega) (by omega), if_neg (by omega), Nat.sub_zero]
    | succ m ih =>
      intro k hm hk
      obtain ⟨k, rfl⟩ : ∃ q, k = q + 1 := ⟨k - 1, by omega⟩
      have ihk := ih k (by omega) (by omega)
      generalize hi : 14 - (m + 1) = i
      have hi2 : 14 - m = i + 1 := by omega
      rw [hi2, bs] at ihk
      have hSi := hS i (by omega)
      have hb : 0 ≤ (bs S ex i).2 ∧ (bs S ex i).2 ≤ 9 := by
        rcases bs_ok (S := S) ex i (fun p hp => (hS p (by omega)).2.1) with h | h
        · omega
        · have := hS (bs S ex i).1.toNat (by omega); omega
      rw [fx_37_7, gq_R (by omega) (by omega), if_pos (by omega), gq_R (by omega) (by omega), show ((i : Nat) : Int) + 1 = ((i + 1 : Nat) : Int) by omega]
      by_cases h1 : (i : Int) = ex
      · rw [if_pos h1]
        rw [if_neg (fun q => q.1 h1)] at ihk
        exact ihk
      · rw [if_neg h1, gq_ix (by omega) (by omega), Int.toNat_natCast, hSi.1, gq_R (by omega) (by omega), gq_R (by omega) (by omega)]
        by_cases h2 : (bs S ex i).2 < S i
        · rw [if_pos h2]
          rw [if_pos ⟨h1, h2⟩] at ihk
          exact ihk
        · rw [if_neg h2]
          rw [if_neg (fun q => h2 q.2)] at ihk
          exact ihk
  have := key 14 gFU (Nat.le_refl _) (by unfold gFU; omega)
  exact this
theorem g38 {y : Int} {c : Nat} (hy : -1 ≤ y ∧ y < 14) (hc : c < 14) (ha : a = 15 ∨ a = 20) : ∃ σ', fx_38 a y (c : Int) σ = some (.inl 0, σ') ∧ (∀ cc, cc ≠ a + 3 → σ' cc = σ cc) ∧ (∀ q k, q < 14 → bt (σ' (a + 3) q) k = (bt (σ (a + 3) q) k || (decide (y = (q : Int)) && decide (k = c)))) ∧ (∀ q, q < 14 → (-2147483648 ≤ σ (a + 3) q ∧ σ (a + 3) q ≤ 2147483647) → (-2147483648 ≤ σ' (a + 3) q ∧ σ' (a + 3) q ≤ 2147483647)) := by
  unfold fx_38
  rw [gq_R (by omega) (by omega)]
  by_cases h : y < 0
  · rw [if_pos h]
    refine ⟨σ, rfl, fun _ _ => rfl, fun q k _ => ?_, fun q _ h => h⟩
    rw [decide_eq_false (by omega), Bool.false_and, Bool.or_false]
  · rw [if_neg h, if_pos (by omega), gq_ix (by omega) (by omega)]
    refine ⟨_, rfl, fun cc h => up_ne _ _ _ _ h, fun q k hq => ?_, fun q hq hR => ?_⟩
    · by_cases hqy : q = y.toNat
      · rw [hqy, up_eq, bt_or, bt_shl hc, decide_eq_true (show y = ((y.toNat : Nat) : Int) by omega), Bool.true_and]
      · rw [up_nj _ _ _ _ hqy, decide_eq_false (show ¬ y = (q : Int) by omega), Bool.false_and, Bool.or_false]
    · by_cases hqy : q = y.toNat
      · rw [hqy, up_eq]; exact or_R _ _
      · rw [up_nj _ _ _ _ hqy]; exact hR
/-- the kin that the class keeps at a are those of P -/
def KP (σ : gb_S) (a : Nat) (P : pT) : Prop := (∀ c, c < 14 → σ (a + 1) c = F1 P c ∧ σ (a + 2) c = F2 P c) ∧ (∀ q, q < 14 → (-2147483648 ≤ σ (a + 3) q ∧ σ (a + 3) q ≤ 2147483647) ∧ ∀ k, bt (σ (a + 3) q) k = (decide (k < 14) && (decide (F1 P k = (q : Int)) || decide (F2 P k = (q : Int)))))
/-- the class tells kin -/
theorem g35 (hH : PH P) (hx : -1 ≤ x ∧ x < 30) (ha : a = 15 ∨ a = 20) (hp : PC σ x P) : ∃ σ', fx_35 a x σ = some (.inl 0, σ') ∧ KP σ' a P ∧ ∀ c, c ≠ a + 1 → c ≠ a + 2 → c ≠ a + 3 → c ≠ a + 4 → σ' c = σ c := by
  have key : ∀ (m k : Nat) (σ : gb_S), m ≤ 14 → m < k → PC σ x P → (∀ c, c < 14 - m → σ (a + 1) c = F1 P c ∧ σ (a + 2) c = F2 P c) → (∀ q, q < 14 → (-2147483648 ≤ σ (a + 3) q ∧ σ (a + 3) q ≤ 2147483647) ∧ ∀ k, bt (σ (a + 3) q) k = (decide (k < 14 - m) && (decide (F1 P k = (q : Int)) || decide (F2 P k = (q : Int))))) → ∃ σ', fx_35_10 k a x ((14 - m : Nat) : Int) σ = some (.inl 0, σ') ∧ KP σ' a P ∧ ∀ c, c ≠ a + 1 → c ≠ a + 2 → c ≠ a + 3 → c ≠ a + 4 → σ' c = σ c := by
    intro m
    induction m with
    | zero =>
      intro k σ _ hk hp h1 h2
      obtain ⟨k, rfl⟩ : ∃ q, k = q + 1 := ⟨k - 1, by omega⟩
      refine ⟨σ, ?_, ⟨h1, h2⟩, fun _ _ _ _ _ => rfl⟩
      rw [fx_35_10, gq_R (by omega) (by omega), if_neg (by omega)]
    | succ m ih =>
      intro k σ hm hk hp h1 h2
      obtain ⟨k, rfl⟩ : ∃ q, k = q + 1 := ⟨k - 1, by omega⟩
      generalize hi : 14 - (m + 1) = i
      rw [hi] at h1 h2
      have hi2 : 14 - m = i + 1 := by omega
      rw [hi2] at ih
      have hi14 : i < 14 := by omega
      obtain ⟨s1, e1, b1, f1⟩ := g36 hH hx ha hi14 hp
      have hF1 := F1_b hH i
      have hF2 := F2_b hH i
      have hS1 : ∀ p, p < 14 → s1 (a + 4) p = pS P i p ∧ 0 ≤ pS P i p ∧ pS P i p ≤ 9 := fun p hp => ⟨b1 p hp, pS_b hH i p⟩
      rw [fx_35_10, gq_R (by omega) (by omega), if_pos (by omega), e1, gc_v, g37 hS1 (by omega), gc_v, gq_ix (by omega) (by omega), Int.toNat_natCast, show ((i : Nat) : Int) + 1 = ((i + 1 : Nat) : Int) by omega]
      rw [show (bs (pS P i) (-1) 14).1 = F1 P i from rfl]
      generalize hs2 : gb_up s1 (a + 1) i (F1 P i) = s2
      have f2 : ∀ c, c ≠ a + 1 → s2 c = s1 c := fun c hc => by rw [← hs2, up_ne _ _ _ _ hc]
      have v2 : s2 (a + 1) i = F1 P i := by rw [← hs2, up_eq]
      rw [v2, g37 (S := pS P i) (fun p hp => by rw [f2 _ (by omega)]; exact hS1 p hp) hF1, gc_v]
      rw [show (bs (pS P i) (F1 P i) 14).1 = F2 P i from rfl]
      generalize hs3 : gb_up s2 (a + 2) i (F2 P i) = s3
      have f3 : ∀ c, c ≠ a + 2 → s3 c = s2 c := fun c hc => by rw [← hs3, up_ne _ _ _ _ hc]
      have v3 : s3 (a + 2) i = F2 P i := by rw [← hs3, up_eq]
      have v31 : s3 (a + 1) i = F1 P i := by rw [f3 _ (by omega), v2]
      obtain ⟨s4, e4, f4, b4, r4⟩ := g38 (σ := s3) (a := a) hF1 hi14 ha
      rw [v31, e4, gc_v]
      have v42 : s4 (a + 2) i = F2 P i := by rw [f4 _ (by omega), v3]
      obtain ⟨s5, e5, f5, b5, r5⟩ := g38 (σ := s4) (a := a) (y := F2 P i) ⟨hF2.1, hF2.2.1⟩ hi14 ha
      rw [v42, e5, gc_v]
      have F5 : ∀ c, c ≠ a + 1 → c ≠ a + 2 → c ≠ a + 3 → c ≠ a + 4 → s5 c = σ c := fun c h1 h2 h3 h4 => by rw [f5 c h3, f4 c h3, f3 c h2, f2 c h1, f1 c h4]
      have e3 : s3 (a + 3) = σ (a + 3) := by rw [f3 _ (by omega), f2 _ (by omega), f1 _ (by omega)]
      obtain ⟨s6, e6, k6, f6⟩ := ih k s5 (by omega) (by omega) (PC_cong (fun c hc => F5 c (by omega) (by omega) (by omega) (by omega)) hp) (fun c hc => by
        rw [f5 (a + 1) (by omega), f5 (a + 2) (by omega), f4 (a + 1) (by omega), f4 (a + 2) (by omega), f3 (a + 1) (by omega)]
        by_cases hci : c = i
        · subst hci; exact ⟨v2, v3⟩
        · rw [← hs3, ← hs2, up_nj _ _ _ _ hci, up_nj _ _ _ _ hci, up_ne _ _ _ _ (by omega : a + 2 ≠ a + 1), f1 _ (by omega), f1 _ (by omega)]
          exact h1 c (by omega)) (fun q hq => ⟨r5 q hq (r4 q hq (by rw [e3]; exact (h2 q hq).1)), fun k => by
        rw [b5 q k hq, b4 q k hq, e3, (h2 q hq).2 k]
        by_cases hki : k = i
        · subst hki
          rw [decide_eq_false (Nat.lt_irrefl k), decide_eq_true (rfl : k = k), decide_eq_true (Nat.lt_succ_self k)]
          simp
        · rw [decide_eq_false hki, Bool.and_false, Bool.and_false, Bool.or_false, Bool.or_false]
          congr 1
          exact decide_eq_decide.mpr (by omega)⟩)
      exact ⟨s6, e6, k6, fun c h1 h2 h3 h4 => by rw [f6 c h1 h2 h3 h4, F5 c h1 h2 h3 h4]⟩
  obtain ⟨s1, e1, k1, f1⟩ := key 14 gFU (gb_fi σ (a + 3) 0) (Nat.le_refl _) (by unfold gFU; omega) (PC_cong (fun c hc => fi_ne _ _ _ (by omega)) hp) (fun c hc => by omega) (fun q _ => by
    rw [fi_eq]
    exact ⟨(by decide : (-2147483648 : Int) ≤ 0 ∧ (0 : Int) ≤ 2147483647), fun k => (bt_zero k).trans (by rw [Nat.sub_self]; rfl)⟩)
  exact ⟨s1, e1, k1, fun c h1 h2 h3 h4 => by rw [f1 c h1 h2 h3 h4, fi_ne _ _ _ h3]⟩
end KI1
