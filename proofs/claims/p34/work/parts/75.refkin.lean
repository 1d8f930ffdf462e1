section RK1
variable {P : pT} {σ : gb_S}
/-- the weights of open doubts against k, among the first m -/
def od (op ag dw : Nat → Int) (k : Nat) : Nat → Int
  | 0 => 0
  | m + 1 => od op ag dw k m + (if ¬ op m = 0 ∧ ag m = (k : Int) then dw m else 0)
/-- the reference's books of proofs are P, the doubts nd -/
def PR (σ : gb_S) (nd : Nat) (P : pT) : Prop := σ 187 8 = (P.1 : Int) ∧ σ 187 12 = (nd : Int) ∧ nd ≤ 30 ∧ (∀ j, j < nd → (σ 196 j = 0 ∨ σ 196 j = 1) ∧ (0 ≤ σ 194 j ∧ σ 194 j < 30) ∧ (0 ≤ σ 195 j ∧ σ 195 j ≤ 9)) ∧ ∀ k, k < P.1 → σ 190 k = P.2.1 k ∧ σ 191 k = P.2.2.1 k ∧ (0 ≤ σ 192 k ∧ σ 192 k ≤ 9) ∧ (σ 193 k = 0 ∨ σ 193 k = 1) ∧ P.2.2.2 k = if σ 193 k = 0 then max 0 (σ 192 k - od (σ 196) (σ 194) (σ 195) k nd) else 0
theorem od_b {op ag dw : Nat → Int} {k : Nat} : ∀ {m : Nat}, (∀ j, j < m → 0 ≤ dw j ∧ dw j ≤ 9) → 0 ≤ od op ag dw k m ∧ od op ag dw k m ≤ 9 * m := by
  intro m
  induction m with
  | zero => intro _; rw [od]; omega
  | succ m ih =>
    intro h
    have h1 := ih (fun j hj => h j (by omega))
    have h2 := h m (by omega)
    rw [od]
    split <;> omega
theorem g141 {nd : Nat} (hP : P.1 ≤ 30) (hp : PR σ nd P) {k : Nat} (hk : k < P.1) : fx_141 (k : Int) σ = some (.inl (P.2.2.2 k), σ) := by
  obtain ⟨p1, p2, p3, p4, p5⟩ := hp
  have h5 := p5 k hk
  have key : ∀ (z : Int), 0 ≤ z ∧ z ≤ 9 → ∀ (m f : Nat), m ≤ nd → m < f → fx_141_22 f (k : Int) (z - od (σ 196) (σ 194) (σ 195) k (nd - m)) ((nd - m : Nat) : Int) σ = some (.inl (max 0 (z - od (σ 196) (σ 194) (σ 195) k nd)), σ) := by
    intro z hz m
    induction m with
    | zero =>
      intro f _ hf
      obtain ⟨f, rfl⟩ : ∃ q, f = q + 1 := ⟨f - 1, by omega⟩
      have hb := od_b (op := σ 196) (ag := σ 194) (dw := σ 195) (k := k) (m := nd) (fun j hj => (p4 j hj).2.2)
      rw [fx_141_22, gq_R (by omega) (by omega), gq_R (by omega) (by omega), if_neg (by omega), Nat.sub_zero, gq_R (by omega) (by omega)]
      split
      · rw [show max 0 (z - od (σ 196) (σ 194) (σ 195) k nd) = 0 by omega]
      · rw [show max 0 (z - od (σ 196) (σ 194) (σ 195) k nd) = z - od (σ 196) (σ 194) (σ 195) k nd by omega]
    | succ m ih =>
      intro f hm hf
      obtain ⟨f, rfl⟩ : ∃ q, f = q + 1 := ⟨f - 1, by omega⟩
      have ihk := ih f (by omega) (by omega)
      generalize hi : nd - (m + 1) = i
      have hi2 : nd - m = i + 1 := by omega
      rw [hi2, od] at ihk
      have h4 := p4 i (by omega)
      rw [fx_141_22, gq_R (by omega) (by omega), gq_R (by omega) (by omega), if_pos (by omega), gq_ix (by omega) (by omega), Int.toNat_natCast, gq_R (by omega) (by omega), show ((i : Nat) : Int) + 1 = ((i + 1 : Nat) : Int) by omega]
      by_cases h1 : σ 196 i = 0
      · rw [if_pos h1]
        rw [if_neg (fun q => q.1 h1), Int.add_zero] at ihk
        rw [Int.sub_zero]
        exact ihk
      · rw [if_neg h1, gq_R (by omega) (by omega), gq_R (by omega) (by omega)]
        by_cases h2 : σ 194 i = (k : Int)
        · rw [if_pos h2]
          rw [if_pos ⟨h1, h2⟩] at ihk
          rw [show z - od (σ 196) (σ 194) (σ 195) k i - σ 195 i = z - (od (σ 196) (σ 194) (σ 195) k i + σ 195 i) by omega]
          exact ihk
        · rw [if_neg h2]
          rw [if_neg (fun q => h2 q.2), Int.add_zero] at ihk
          rw [Int.sub_zero]
          exact ihk
  have hnn := (od_b (op := σ 196) (ag := σ 194) (dw := σ 195) (k := k) (m := nd) (fun j hj => (p4 j hj).2.2)).1
  unfold fx_141
  rw [gq_ix (by omega) (by omega), Int.toNat_natCast, gq_R (by omega) (by omega), h5.2.2.2.2]
  by_cases h0 : σ 193 k = 0
  · rw [if_pos h0, if_pos h0]
    have := key (σ 192 k) h5.2.2.1 nd gFU (Nat.le_refl _) (by unfold gFU; omega)
    rw [Nat.sub_self] at this
    show fx_141_22 gFU (k : Int) (σ 192 k) 0 σ = _
    rw [show σ 192 k - od (σ 196) (σ 194) (σ 195) k 0 = σ 192 k by rw [od, Int.sub_zero]] at this
    exact this
  · rw [if_neg h0, if_neg h0]
    have := key 0 (by omega) nd gFU (Nat.le_refl _) (by unfold gFU; omega)
    rw [Nat.sub_self] at this
    rw [show (0 : Int) - od (σ 196) (σ 194) (σ 195) k 0 = 0 by rw [od]; omega, show max 0 (0 - od (σ 196) (σ 194) (σ 195) k nd) = 0 by omega] at this
    exact this
/-- power holds the strengths -/
def PW (σ : gb_S) (P : pT) : Prop := σ 187 8 = (P.1 : Int) ∧ ∀ k, k < P.1 → σ 190 k = P.2.1 k ∧ σ 191 k = P.2.2.1 k ∧ σ 211 k = P.2.2.2 k
theorem g142 (hH : PH P) (hw : PW σ P) {p c : Nat} (hp : p < 14) (hc : c < 14) : fx_142 (p : Int) (c : Int) σ = some (.inl (pS P c p), σ) := by
  have h30 := hH.1
  have key : ∀ (m f : Nat), m ≤ P.1 → m < f → fx_142_5 f (p : Int) (c : Int) (Sx P.2.1 P.2.2.1 P.2.2.2 (c : Int) (p : Int) (P.1 - m)) ((P.1 - m : Nat) : Int) σ = some (.inl (pS P c p), σ) := by
    intro m
    induction m with
    | zero =>
      intro f _ hf
      obtain ⟨f, rfl⟩ : ∃ q, f = q + 1 := ⟨f - 1, by omega⟩
      have h1 := hw.1
      rw [fx_142_5, gq_R (by omega) (by omega), gq_R (by omega) (by omega), if_neg (by omega), Nat.sub_zero]
      rfl
    | succ m ih =>
      intro f hm hf
      obtain ⟨f, rfl⟩ : ∃ q, f = q + 1 := ⟨f - 1, by omega⟩
      have h1 := hw.1
      have ihk := ih f (by omega) (by omega)
      generalize hi : P.1 - (m + 1) = i
      have hi2 : P.1 - m = i + 1 := by omega
      rw [hi2, Sx] at ihk
      have hiP : i < P.1 := by omega
      have h2 := hw.2 i hiP
      have h3 := hH.2 i hiP
      have hb : 0 ≤ Sx P.2.1 P.2.2.1 P.2.2.2 (c : Int) (p : Int) i ∧ Sx P.2.1 P.2.2.1 P.2.2.2 (c : Int) (p : Int) i ≤ 9 := Sx_b (fun k hk => (hH.2 k (by omega)).2.2)
      have h47 : ∀ y : Int, (0 ≤ y ∧ y ≤ 9) → max (Sx P.2.1 P.2.2.1 P.2.2.2 (c : Int) (p : Int) i) y = (if P.2.2.1 i = (c : Int) ∧ P.2.1 i = (p : Int) then max (Sx P.2.1 P.2.2.1 P.2.2.2 (c : Int) (p : Int) i) (P.2.2.2 i) else Sx P.2.1 P.2.2.1 P.2.2.2 (c : Int) (p : Int) i) → fx_142_47 (fx_142_5 f) (p : Int) (c : Int) (Sx P.2.1 P.2.2.1 P.2.2.2 (c : Int) (p : Int) i) (i : Int) y σ = some (.inl (pS P c p), σ) := by
        intro y hy hm
        rw [← hm] at ihk
        unfold fx_142_47
        rw [gq_R (by omega) (by omega), gq_R (by omega) (by omega), show ((i : Nat) : Int) + 1 = ((i + 1 : Nat) : Int) by omega]
        split
        · rw [show max (Sx P.2.1 P.2.2.1 P.2.2.2 (c : Int) (p : Int) i) y = y by omega] at ihk
          exact ihk
        · rw [show max (Sx P.2.1 P.2.2.1 P.2.2.2 (c : Int) (p : Int) i) y = Sx P.2.1 P.2.2.1 P.2.2.2 (c : Int) (p : Int) i by omega] at ihk
          exact ihk
      rw [fx_142_5, gq_R (by omega) (by omega), gq_R (by omega) (by omega), if_pos (by omega), gq_ix (by omega) (by omega), Int.toNat_natCast, h2.1, gq_R (by omega) (by omega), gq_R (by omega) (by omega)]
      by_cases ha : P.2.1 i = (p : Int)
      · rw [if_pos ha, h2.2.1, gq_R (by omega) (by omega), gq_R (by omega) (by omega)]
        by_cases hb2 : P.2.2.1 i = (c : Int)
        · rw [if_pos hb2, h2.2.2]
          exact h47 _ h3.2.2 (by rw [if_pos ⟨hb2, ha⟩])
        · rw [if_neg hb2]
          exact h47 0 (by omega) (by rw [if_neg (fun q => hb2 q.1)]; omega)
      · rw [if_neg ha]
        exact h47 0 (by omega) (by rw [if_neg (fun q => ha q.2)]; omega)
  have := key P.1 gFU (Nat.le_refl _) (by unfold gFU; omega)
  rw [Nat.sub_self] at this
  exact this
/-- parents found among the first n are those among all -/
theorem bs_n {n : Nat} (hn : n ≤ 14) (hH : PH P) (hlt : ∀ k, k < P.1 → P.2.1 k < (n : Int)) (c : Nat) (ex : Int) : bs (pS P c) ex 14 = bs (pS P c) ex n :=
  bs_late (fun p hp => Sx_none (fun k hk hh => by have := hlt k hk; omega)) (fun p => (pS_b hH c p).1) hn
/-- one child's parents -/
theorem g143_66 {n : Nat} (hn : n ≤ 14) (hH : PH P) (hlt : ∀ k, k < P.1 → P.2.1 k < (n : Int)) {c : Nat} (hc : c < n) (k42 : Int → gb_S → Option gb_P) : ∀ (m f : Nat) (σ : gb_S), m ≤ n → m < f → σ 187 3 = (n : Int) → PW σ P → σ 212 c = (bs (pS P c) (-1) (n - m)).1 → σ 213 c = (bs (pS P c) (bs (pS P c) (-1) (n - m)).1 (n - m)).1 → ∃ σ', fx_143_66 f k42 (c : Int) ((n - m : Nat) : Int) σ = k42 ((c : Int) + 1) σ' ∧ σ' 212 c = F1 P c ∧ σ' 213 c = F2 P c ∧ (∀ q, q ≠ c → σ' 212 q = σ 212 q ∧ σ' 213 q = σ 213 q) ∧ ∀ cc, cc ≠ 212 → cc ≠ 213 → σ' cc = σ cc := by
  intro m
  induction m with
  | zero =>
    intro f σ _ hf h3 hw h1 h2
    obtain ⟨f, rfl⟩ : ∃ q, f = q + 1 := ⟨f - 1, by omega⟩
    refine ⟨σ, ?_, ?_, ?_, fun _ _ => ⟨rfl, rfl⟩, fun _ _ _ => rfl⟩
    · rw [fx_143_66, gq_R (by omega) (by omega), gq_R (by omega) (by omega), if_neg (by omega)]
    · rw [h1, Nat.sub_zero]; unfold F1; rw [bs_n hn hH hlt]
    · rw [h2, Nat.sub_zero]; unfold F2 F1; rw [bs_n hn hH hlt c (-1), bs_n hn hH hlt]
  | succ m ih =>
    intro f σ hm hf h3 hw h1 h2
    obtain ⟨f, rfl⟩ : ∃ q, f = q + 1 := ⟨f - 1, by omega⟩
    generalize hi : n - (m + 1) = i
    rw [hi] at h1 h2
    have hi2 : n - m = i + 1 := by omega
    rw [hi2] at ih
    have hSnn : ∀ p, p < i → 0 ≤ pS P c p := fun p _ => (pS_b hH c p).1
    have hSi := pS_b hH c i
    have ok1 := bs_ok (S := pS P c) (-1) i hSnn
    generalize hA : bs (pS P c) (-1) i = A at h1 ok1 h2
    have ok2 := bs_ok (S := pS P c) A.1 i hSnn
    generalize hB : bs (pS P c) A.1 i = B at h2 ok2
    have hA2 : A.2 ≤ 9 := by
      rcases ok1 with h | h
      · omega
      · have := pS_b hH c A.1.toNat; omega
    have hB2 : B.2 ≤ 9 := by
      rcases ok2 with h | h
      · omega
      · have := pS_b hH c B.1.toNat; omega
    -- the step of the pure search
    have sA : bs (pS P c) (-1) (i + 1) = if A.2 < pS P c i then ((i : Int), pS P c i) else A := by
      rw [bs, hA]
      by_cases h : A.2 < pS P c i
      · rw [if_pos ⟨by omega, h⟩, if_pos h]
      · rw [if_neg (fun q => h q.2), if_neg h]
    have hgo : ∀ σ1 : gb_S, (∀ cc, cc ≠ 212 → cc ≠ 213 → σ1 cc = σ cc) → (∀ q, q ≠ c → σ1 212 q = σ 212 q ∧ σ1 213 q = σ 213 q) → σ1 212 c = (bs (pS P c) (-1) (i + 1)).1 → σ1 213 c = (bs (pS P c) (bs (pS P c) (-1) (i + 1)).1 (i + 1)).1 → ∃ σ', fx_143_66 f k42 (c : Int) ((i : Int) + 1) σ1 = k42 ((c : Int) + 1) σ' ∧ σ' 212 c = F1 P c ∧ σ' 213 c = F2 P c ∧ (∀ q, q ≠ c → σ' 212 q = σ 212 q ∧ σ' 213 q = σ 213 q) ∧ ∀ cc, cc ≠ 212 → cc ≠ 213 → σ' cc = σ cc := by
      intro σ1 f1 q1 v1 v2
      rw [show ((i : Nat) : Int) + 1 = ((i + 1 : Nat) : Int) by omega]
      obtain ⟨s2, e2, a2, b2, q2, f2⟩ := ih f σ1 (by omega) (by omega) (by rw [f1 _ (by omega) (by omega)]; exact h3) (by unfold PW; rw [f1 187 (by omega) (by omega), f1 190 (by omega) (by omega), f1 191 (by omega) (by omega), f1 211 (by omega) (by omega)]; exact hw) v1 v2
      exact ⟨s2, e2, a2, b2, fun q hq => by rw [(q2 q hq).1, (q2 q hq).2]; exact q1 q hq, fun cc h1 h2 => by rw [f2 cc h1 h2, f1 cc h1 h2]⟩
    have hstr : ∀ p : Nat, p < 14 → ∀ σ1 : gb_S, σ1 = σ → fx_142 (p : Int) (c : Int) σ1 = some (.inl (pS P c p), σ1) := fun p hp σ1 h => by rw [h]; exact g142 hH hw hp (by omega)
    -- not a new first one
    have h132 : ∀ (_ : Unit), ¬ A.2 < pS P c i → ∃ σ', fx_143_132 k42 (fx_143_66 f k42) (c : Int) (i : Int) (pS P c i) σ = k42 ((c : Int) + 1) σ' ∧ σ' 212 c = F1 P c ∧ σ' 213 c = F2 P c ∧ (∀ q, q ≠ c → σ' 212 q = σ 212 q ∧ σ' 213 q = σ 213 q) ∧ ∀ cc, cc ≠ 212 → cc ≠ 213 → σ' cc = σ cc := by
      intro _ hno
      rw [if_neg hno] at sA
      have sB : bs (pS P c) A.1 (i + 1) = if B.2 < pS P c i then ((i : Int), pS P c i) else B := by
        rw [bs, hB]
        by_cases h : B.2 < pS P c i
        · rw [if_pos ⟨by rcases ok1 with q | q <;> omega, h⟩, if_pos h]
        · rw [if_neg (fun q => h q.2), if_neg h]
      rw [sA, sB] at hgo
      have hnew : ∀ (_ : Unit), B.2 < pS P c i → ∃ σ', fx_143_66 f k42 (c : Int) ((i : Int) + 1) (gb_up σ 213 c (i : Int)) = k42 ((c : Int) + 1) σ' ∧ σ' 212 c = F1 P c ∧ σ' 213 c = F2 P c ∧ (∀ q, q ≠ c → σ' 212 q = σ 212 q ∧ σ' 213 q = σ 213 q) ∧ ∀ cc, cc ≠ 212 → cc ≠ 213 → σ' cc = σ cc := fun _ h =>
        hgo _ (fun cc _ h2 => up_ne _ _ _ _ h2) (fun q hq => by constructor <;> simp only [up_nj _ _ _ _ hq]) (by rw [up_ne _ _ _ _ (by omega)]; exact h1) (by rw [up_eq, if_pos h])
      have hold : ∀ (_ : Unit), ¬ B.2 < pS P c i → ∃ σ', fx_143_66 f k42 (c : Int) ((i : Int) + 1) σ = k42 ((c : Int) + 1) σ' ∧ σ' 212 c = F1 P c ∧ σ' 213 c = F2 P c ∧ (∀ q, q ≠ c → σ' 212 q = σ 212 q ∧ σ' 213 q = σ 213 q) ∧ ∀ cc, cc ≠ 212 → cc ≠ 213 → σ' cc = σ cc := fun _ h =>
        hgo σ (fun _ _ _ => rfl) (fun _ _ => ⟨rfl, rfl⟩) h1 (by rw [if_neg h]; exact h2)
      unfold fx_143_132
      rw [gq_R (by omega) (by omega)]
      by_cases hpos : 0 < pS P c i
      · rw [if_pos hpos, gq_ix (by omega) (by omega), Int.toNat_natCast, h2, gq_R (by rcases ok2 with q | q <;> omega) (by rcases ok2 with q | q <;> omega)]
        by_cases hB1 : B.1 = -1
        · rw [if_pos hB1]
          exact hnew () (by rcases ok2 with q | q <;> omega)
        · have hB0 : 0 ≤ B.1 := by rcases ok2 with q | q <;> omega
          have hB3 : B.2 = pS P c B.1.toNat := by rcases ok2 with q | q; omega; exact q.2.2.2.1
          have hB4 : B.1 < (i : Int) := by rcases ok2 with q | q <;> omega
          rw [if_neg hB1, show B.1 = ((B.1.toNat : Nat) : Int) by omega, hstr _ (by omega) σ rfl, gc_v, gq_R (by omega) (by omega), ← hB3]
          by_cases hlt2 : B.2 < pS P c i
          · rw [if_pos hlt2]; exact hnew () hlt2
          · rw [if_neg hlt2]; exact hold () hlt2
      · rw [if_neg hpos]
        refine hold () ?_
        rcases ok2 with q | q <;> omega
    -- a new first one
    have h110 : ∀ (_ : Unit), A.2 < pS P c i → ∃ σ', fx_143_110 k42 (fx_143_66 f k42) (c : Int) (i : Int) σ = k42 ((c : Int) + 1) σ' ∧ σ' 212 c = F1 P c ∧ σ' 213 c = F2 P c ∧ (∀ q, q ≠ c → σ' 212 q = σ 212 q ∧ σ' 213 q = σ 213 q) ∧ ∀ cc, cc ≠ 212 → cc ≠ 213 → σ' cc = σ cc := by
      intro _ hyes
      rw [if_pos hyes] at sA
      rw [sA] at hgo
      have sB : bs (pS P c) (i : Int) (i + 1) = A := by
        rw [bs, if_neg (fun q => q.1 rfl), bs_ex (ex' := -1) (Or.inr (Int.le_refl _)) (Or.inl (by omega)), hA]
      unfold fx_143_110
      rw [gq_ix (by omega) (by omega), Int.toNat_natCast]
      refine hgo _ (fun cc h1 h2 => by rw [up_ne _ _ _ _ h1, up_ne _ _ _ _ h2]) (fun q hq => by constructor <;> simp only [up_nj _ _ _ _ hq]) (up_eq _ _ _ _) ?_
      rw [up_ne _ _ _ _ (by omega), up_eq, h1]
      show A.1 = (bs (pS P c) (i : Int) (i + 1)).1
      rw [sB]
    rw [fx_143_66, gq_R (by omega) (by omega), gq_R (by omega) (by omega), if_pos (by omega), hstr i (by omega) σ rfl, gc_v, gq_R (by omega) (by omega)]
    by_cases hpos : 0 < pS P c i
    · rw [if_pos hpos, gq_ix (by omega) (by omega), Int.toNat_natCast, h1, gq_R (by rcases ok1 with q | q <;> omega) (by rcases ok1 with q | q <;> omega)]
      by_cases hA1 : A.1 = -1
      · rw [if_pos hA1]
        exact h110 () (by rcases ok1 with q | q <;> omega)
      · have hA0 : 0 ≤ A.1 := by rcases ok1 with q | q <;> omega
        have hA3 : A.2 = pS P c A.1.toNat := by rcases ok1 with q | q; omega; exact q.2.2.2.1
        have hA4 : A.1 < (i : Int) := by rcases ok1 with q | q <;> omega
        have hstrA : fx_142 A.1 (c : Int) σ = some (.inl A.2, σ) := by
          rw [hA3]
          have := hstr A.1.toNat (by omega) σ rfl
          rw [show ((A.1.toNat : Nat) : Int) = A.1 by omega] at this
          exact this
        rw [if_neg hA1, hstrA, gc_v, gq_R (by rcases ok1 with q | q <;> omega) (by omega)]
        by_cases hlt2 : A.2 < pS P c i
        · rw [if_pos hlt2]; exact h110 () hlt2
        · rw [if_neg hlt2]; exact h132 () hlt2
    · rw [if_neg hpos]
      refine h132 () ?_
      rcases ok1 with q | q <;> omega
/-- first and second hold the parents -/
def KF (σ : gb_S) (n : Nat) (P : pT) : Prop := ∀ c, c < n → σ 212 c = F1 P c ∧ σ 213 c = F2 P c
theorem g143 {n nd : Nat} (hn : n ≤ 14) (hH : PH P) (hlt : ∀ k, k < P.1 → P.2.1 k < (n : Int)) (h3 : σ 187 3 = (n : Int)) (hp : PR σ nd P) (hs : (σ 187 29 = 0 ∧ KF σ n P) ∨ σ 187 29 = 1) : ∃ σ', fx_143 σ = some (.inl 0, σ') ∧ KF σ' n P ∧ σ' 187 29 = 0 ∧ (∀ j, j ≠ 29 → σ' 187 j = σ 187 j) ∧ ∀ c, c ≠ 187 → c ≠ 211 → c ≠ 212 → c ≠ 213 → σ' c = σ c := by
  have h30 := hH.1
  unfold fx_143
  rw [gq_R (by omega) (by omega)]
  by_cases h0 : σ 187 29 = 0
  · rw [if_pos h0]
    exact ⟨σ, rfl, by rcases hs with h | h; exact h.2; omega, h0, fun _ _ => rfl, fun _ _ _ _ _ => rfl⟩
  · rw [if_neg h0]
    generalize hs0 : gb_up σ 187 29 0 = s0
    have f0 : ∀ c, c ≠ 187 → s0 c = σ c := fun c hc => by rw [← hs0, up_ne _ _ _ _ hc]
    have j0 : ∀ j, j ≠ 29 → s0 187 j = σ 187 j := fun j hj => by rw [← hs0, up_nj _ _ _ _ hj]
    have z0 : s0 187 29 = 0 := by rw [← hs0, up_eq]
    -- children
    have k42 : ∀ (m f : Nat) (σ1 : gb_S), m ≤ n → m < f → σ1 187 3 = (n : Int) → PW σ1 P → (∀ c, c < n - m → σ1 212 c = F1 P c ∧ σ1 213 c = F2 P c) → ∃ σ', fx_143_42 f ((n - m : Nat) : Int) σ1 = some (.inl 0, σ') ∧ KF σ' n P ∧ ∀ c, c ≠ 212 → c ≠ 213 → σ' c = σ1 c := by
      intro m
      induction m with
      | zero =>
        intro f σ1 _ hf h3 hw hc
        obtain ⟨f, rfl⟩ : ∃ q, f = q + 1 := ⟨f - 1, by omega⟩
        refine ⟨σ1, ?_, fun c hcn => hc c (by omega), fun _ _ _ => rfl⟩
        rw [fx_143_42, gq_R (by omega) (by omega), gq_R (by omega) (by omega), if_neg (by omega)]
      | succ m ih =>
        intro f σ1 hm hf h3 hw hc
        obtain ⟨f, rfl⟩ : ∃ q, f = q + 1 := ⟨f - 1, by omega⟩
        generalize hi : n - (m + 1) = i
        rw [hi] at hc
        have hi2 : n - m = i + 1 := by omega
        rw [hi2] at ih
        rw [fx_143_42, gq_R (by omega) (by omega), gq_R (by omega) (by omega), if_pos (by omega), gq_ix (by omega) (by omega), Int.toNat_natCast]
        generalize hs2 : gb_up (gb_up σ1 212 i (-1)) 213 i (-1) = s2
        have f2 : ∀ c, c ≠ 212 → c ≠ 213 → s2 c = σ1 c := fun c h1 h2 => by rw [← hs2, up_ne _ _ _ _ h2, up_ne _ _ _ _ h1]
        have hw2 : PW s2 P := by unfold PW; rw [f2 187 (by omega) (by omega), f2 190 (by omega) (by omega), f2 191 (by omega) (by omega), f2 211 (by omega) (by omega)]; exact hw
        obtain ⟨s3, e3, a3, b3, q3, f3⟩ := g143_66 hn hH hlt (c := i) (by omega) (fx_143_42 f) n gFU s2 (Nat.le_refl _) (by unfold gFU; omega) (by rw [f2 187 (by omega) (by omega)]; exact h3) hw2 (by rw [Nat.sub_self, ← hs2, up_ne _ _ _ _ (by omega), up_eq]; rfl) (by rw [Nat.sub_self, ← hs2, up_eq]; rfl)
        rw [Nat.sub_self] at e3
        obtain ⟨s4, e4, c4, f4⟩ := ih f s3 (by omega) (by omega) (by rw [f3 187 (by omega) (by omega), f2 187 (by omega) (by omega)]; exact h3) (by unfold PW; rw [f3 187 (by omega) (by omega), f3 190 (by omega) (by omega), f3 191 (by omega) (by omega), f3 211 (by omega) (by omega)]; exact hw2) (fun c hcn => by
          by_cases hci : c = i
          · subst hci; exact ⟨a3, b3⟩
          · rw [(q3 c hci).1, (q3 c hci).2, ← hs2]
            simp only [up_nj _ _ _ _ hci]
            exact hc c (by omega))
        refine ⟨s4, ?_, c4, fun c h1 h2 => by rw [f4 c h1 h2, f3 c h1 h2, f2 c h1 h2]⟩
        refine Eq.trans e3 ?_
        rw [show ((i : Nat) : Int) + 1 = ((i + 1 : Nat) : Int) by omega]
        exact e4
    -- powers
    have k15 : ∀ (m f : Nat) (σ1 : gb_S), m ≤ P.1 → m < f → σ1 187 3 = (n : Int) → PR σ1 nd P → (∀ k, k < P.1 - m → σ1 211 k = P.2.2.2 k) → ∃ σ', fx_143_15 f ((P.1 - m : Nat) : Int) σ1 = some (.inl 0, σ') ∧ KF σ' n P ∧ ∀ c, c ≠ 211 → c ≠ 212 → c ≠ 213 → σ' c = σ1 c := by
      intro m
      induction m with
      | zero =>
        intro f σ1 _ hf h3 hp hc
        obtain ⟨f, rfl⟩ : ∃ q, f = q + 1 := ⟨f - 1, by omega⟩
        have h8 := hp.1
        obtain ⟨s2, e2, c2, f2⟩ := k42 n gFU σ1 (Nat.le_refl _) (by unfold gFU; omega) h3 ⟨h8, fun k hk => ⟨(hp.2.2.2.2 k hk).1, (hp.2.2.2.2 k hk).2.1, hc k (by omega)⟩⟩ (fun c hc => by omega)
        rw [Nat.sub_self] at e2
        refine ⟨s2, ?_, c2, fun c _ h2 h3 => f2 c h2 h3⟩
        rw [fx_143_15, gq_R (by omega) (by omega), gq_R (by omega) (by omega), if_neg (by omega)]
        exact e2
      | succ m ih =>
        intro f σ1 hm hf h3 hp hc
        obtain ⟨f, rfl⟩ : ∃ q, f = q + 1 := ⟨f - 1, by omega⟩
        have h8 := hp.1
        generalize hi : P.1 - (m + 1) = i
        rw [hi] at hc
        have hi2 : P.1 - m = i + 1 := by omega
        rw [hi2] at ih
        rw [fx_143_15, gq_R (by omega) (by omega), gq_R (by omega) (by omega), if_pos (by omega), g141 h30 hp (by omega), gc_v, gq_ix (by omega) (by omega), Int.toNat_natCast, show ((i : Nat) : Int) + 1 = ((i + 1 : Nat) : Int) by omega]
        obtain ⟨s2, e2, c2, f2⟩ := ih f (gb_up σ1 211 i (P.2.2.2 i)) (by omega) (by omega) (by rw [up_ne _ _ _ _ (by omega)]; exact h3) (by
          unfold PR
          simp only [up_ne σ1 211 i (P.2.2.2 i) (show 187 ≠ 211 by omega), up_ne σ1 211 i (P.2.2.2 i) (show 190 ≠ 211 by omega), up_ne σ1 211 i (P.2.2.2 i) (show 191 ≠ 211 by omega), up_ne σ1 211 i (P.2.2.2 i) (show 192 ≠ 211 by omega), up_ne σ1 211 i (P.2.2.2 i) (show 193 ≠ 211 by omega), up_ne σ1 211 i (P.2.2.2 i) (show 194 ≠ 211 by omega), up_ne σ1 211 i (P.2.2.2 i) (show 195 ≠ 211 by omega), up_ne σ1 211 i (P.2.2.2 i) (show 196 ≠ 211 by omega)]
          exact hp) (fun k hk => by
          by_cases hki : k = i
          · subst hki; rw [up_eq]
          · rw [up_nj _ _ _ _ hki]; exact hc k (by omega))
        exact ⟨s2, e2, c2, fun c h1 h2 h3 => by rw [f2 c h1 h2 h3, up_ne _ _ _ _ h1]⟩
    obtain ⟨s1, e1, c1, f1⟩ := k15 P.1 gFU s0 (Nat.le_refl _) (by unfold gFU; omega) (by rw [j0 3 (by omega)]; exact h3) (by
      unfold PR
      rw [j0 8 (by omega), j0 12 (by omega), f0 190 (by omega), f0 191 (by omega), f0 192 (by omega), f0 193 (by omega), f0 194 (by omega), f0 195 (by omega), f0 196 (by omega)]
      exact hp) (fun k hk => by omega)
    rw [Nat.sub_self] at e1
    exact ⟨s1, e1, c1, by rw [f1 187 (by omega) (by omega) (by omega)]; exact z0, fun j hj => by rw [f1 187 (by omega) (by omega) (by omega)]; exact j0 j hj, fun c h1 h2 h3 h4 => by rw [f1 c h2 h3 h4, f0 c h1]⟩
end RK1
