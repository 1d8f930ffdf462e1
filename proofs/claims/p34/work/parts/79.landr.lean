section LR1
variable {σ : gb_S} {C : List Nat} {n d : Nat} {R : Nat → Rat}
/-- the claims to the estate of d, in the reference -/
def CR (σ : gb_S) (d n : Nat) (C : List Nat) : Prop := σ 202 d = (C.length : Int) ∧ C.length ≤ 14 ∧ C.Nodup ∧ (∀ p, p ∈ C → p < n) ∧ ∀ k, k < C.length → σ 201 (14 * d + k) = ((C.getD k 0 : Nat) : Int)
theorem CR_cong {σ' : gb_S} (h1 : σ' 201 = σ 201) (h2 : σ' 202 = σ 202) (h : CR σ d n C) : CR σ' d n C := by
  unfold CR
  rw [h1, h2]
  exact h
theorem g153 (hn : n ≤ 14) (hd : d < 14) (hc : CR σ d n C) {p : Nat} (hp : p < 14) : ∃ r : Int, fx_153 (p : Int) (d : Int) σ = some (.inl r, σ) ∧ (C.contains p = false → r = -1) ∧ (C.contains p = true → 0 ≤ r ∧ r < 14) := by
  obtain ⟨c1, c2, c3, c4, c5⟩ := hc
  have key : ∀ (m f : Nat) (x : Int), m ≤ C.length → m < f → ((x = -1 ∧ ∀ k, k < C.length - m → C.getD k 0 ≠ p) ∨ (0 ≤ x ∧ x < 14 ∧ p ∈ C)) → ∃ r : Int, fx_153_5 f (p : Int) (d : Int) x ((C.length - m : Nat) : Int) σ = some (.inl r, σ) ∧ (C.contains p = false → r = -1) ∧ (C.contains p = true → 0 ≤ r ∧ r < 14) := by
    intro m
    induction m with
    | zero =>
      intro f x _ hf hx
      obtain ⟨f, rfl⟩ : ∃ q, f = q + 1 := ⟨f - 1, by omega⟩
      refine ⟨x, ?_, fun h => ?_, fun h => ?_⟩
      · rw [fx_153_5, gq_ix (by omega) (by omega), Int.toNat_natCast, gq_R (by omega) (by omega), gq_R (by omega) (by omega), if_neg (by omega)]
      · rcases hx with hx | hx
        · exact hx.1
        · rw [List.contains_iff_mem.mpr hx.2.2] at h; cases h
      · rcases hx with hx | hx
        · obtain ⟨k, hk, hke⟩ := mem_getD (List.contains_iff_mem.mp h)
          exact absurd hke (hx.2 k (by omega))
        · exact ⟨hx.1, hx.2.1⟩
    | succ m ih =>
      intro f x hm hf hx
      obtain ⟨f, rfl⟩ : ∃ q, f = q + 1 := ⟨f - 1, by omega⟩
      have ihk := ih f
      generalize hi : C.length - (m + 1) = i at hx
      have hi2 : C.length - m = i + 1 := by omega
      rw [hi2] at ihk
      have hil : i < C.length := by omega
      have hCi := c4 _ (getD_mem hil)
      rw [fx_153_5, gq_ix (by omega) (by omega), Int.toNat_natCast, gq_R (by omega) (by omega), gq_R (by omega) (by omega), if_pos (by omega), gq_ix (by omega) (by omega), show (14 * (d : Int) + (i : Int)).toNat = 14 * d + i by omega, c5 i hil, gq_R (by omega) (by omega), gq_R (by omega) (by omega), show ((i : Nat) : Int) + 1 = ((i + 1 : Nat) : Int) by omega]
      by_cases he : C.getD i 0 = p
      · rw [if_pos (by omega)]
        exact ihk (i : Int) (by omega) (by omega) (Or.inr ⟨by omega, by omega, he ▸ getD_mem hil⟩)
      · rw [if_neg (by omega)]
        refine ihk x (by omega) (by omega) ?_
        rcases hx with hx | hx
        · exact Or.inl ⟨hx.1, fun k hk => by
            by_cases hki : k = i
            · subst hki; exact he
            · exact hx.2 k (by omega)⟩
        · exact Or.inr hx
  have := key C.length gFU (-1) (Nat.le_refl _) (by unfold gFU; omega) (Or.inl ⟨rfl, fun k hk => by omega⟩)
  rw [Nat.sub_self] at this
  exact this
theorem pre_get {L A : List Nat} {x : Nat} (h : (A ++ [x]) <+: L) : L[A.length]? = some x := by
  obtain ⟨t, rfl⟩ := h
  rw [List.append_assoc, List.getElem?_append_right (Nat.le_refl _), Nat.sub_self]
  rfl
theorem range_pre {i n : Nat} (h : i ≤ n) : List.range i <+: List.range n := by
  induction n with
  | zero => rw [show i = 0 by omega]; exact List.prefix_refl _
  | succ n ih =>
    by_cases hq : i = n + 1
    · rw [hq]; exact List.prefix_refl _
    · rw [List.range_succ]
      exact List.IsPrefix.trans (ih (by omega)) (List.prefix_append _ _)
/-- the heir by rank -/
theorem g181 (hn : n ≤ 14) (hd : d < n) (h3 : σ 187 3 = (n : Int)) (hc : CR σ d n C) (hcs : cs σ n R) (hR : ∀ p, 0 ≤ R p ∧ R p ≤ 1 ∧ (R p).den ≤ 1000000000) {r : Nat} (hr : r ≤ 60) : fx_181 (d : Int) (r : Int) σ = some (.inl (gv (RL n R C) r), σ) := by
  have hnum : ∀ p, p < n → σ 216 p = (R p).num ∧ -9223372036854775808 ≤ σ 216 p ∧ σ 216 p ≤ 9223372036854775807 := fun p hp => by
    have h1 := (hcs p hp).1
    have hb := hR p
    have h2 := num_le_den hb.2.1
    have h3 : 0 ≤ (R p).num := Rat.num_nonneg.mpr hb.1
    have h4 := hb.2.2
    exact ⟨h1, by omega, by omega⟩
  have hpos : ∀ p, p < n → (0 < σ 216 p ↔ 0 < R p) := fun p hp => by
    have h3 : 0 ≤ (R p).num := Rat.num_nonneg.mpr (hR p).1
    have h4 := num_pos (hR p).1
    rw [(hnum p hp).1]
    constructor
    · intro h; exact Classical.byContradiction (fun q => by have := h4.mpr q; omega)
    · intro h; have : ¬ (R p).num = 0 := fun q => h4.mp q h; omega
  -- others by their numbers
  have k78 : ∀ (m f : Nat) (A : List Nat), m ≤ n → m < f → A = C.filter (fun p => decide (0 < R p)) ++ (List.range (n - m)).filter (fun p => !C.contains p && decide (0 < R p)) → A.length ≤ r → fx_181_78 f (d : Int) ((r : Int) - (A.length : Int)) ((n - m : Nat) : Int) σ = some (.inl (gv (RL n R C) r), σ) := by
    intro m
    induction m with
    | zero =>
      intro f A _ hf hA hAr
      obtain ⟨f, rfl⟩ : ∃ q, f = q + 1 := ⟨f - 1, by omega⟩
      rw [Nat.sub_zero] at hA
      rw [fx_181_78, gq_R (by omega) (by omega), gq_R (by omega) (by omega), if_neg (by omega)]
      rw [gv_none]
      rw [List.getElem?_eq_none_iff]
      show (RL n R C).length ≤ r
      have : RL n R C = A := hA.symm
      rw [this]; exact hAr
    | succ m ih =>
      intro f A hm hf hA hAr
      obtain ⟨f, rfl⟩ : ∃ q, f = q + 1 := ⟨f - 1, by omega⟩
      generalize hi : n - (m + 1) = i at hA ⊢
      have hi2 : n - m = i + 1 := by omega
      rw [hi2] at ih
      have hin : i < n := by omega
      have hb := hnum i hin
      have hsn : C.filter (fun p => decide (0 < R p)) ++ (List.range (i + 1)).filter (fun p => !C.contains p && decide (0 < R p)) = A ++ (if (!C.contains i && decide (0 < R i)) = true then [i] else []) := by
        rw [List.range_succ, filter_snoc, ← List.append_assoc, ← hA]
      have h115 : ∀ y : Bool, y = (!C.contains i && decide (0 < R i)) → fx_181_115 (fx_181_78 f) (d : Int) ((r : Int) - (A.length : Int)) (i : Int) (if y = true then 1 else 0) σ = some (.inl (gv (RL n R C) r), σ) := by
        intro y hy
        rw [← hy] at hsn
        unfold fx_181_115 fx_181_129
        rw [gq_R (bR _).1 (bR _).2, show ((i : Nat) : Int) + 1 = ((i + 1 : Nat) : Int) by omega]
        cases y with
        | false =>
          rw [show (if false = true then (1 : Int) else 0) = 0 from rfl, if_pos rfl, gq_R (by omega) (by omega), if_pos rfl, Int.sub_zero]
          rw [if_neg (by decide), List.append_nil] at hsn
          exact ih f A (by omega) (by omega) hsn.symm hAr
        | true =>
          rw [if_pos rfl] at hsn
          rw [if_pos rfl, if_neg (by decide), gq_R (by omega) (by omega)]
          by_cases hz : (r : Int) - (A.length : Int) = 0
          · rw [if_pos hz]
            have hpre : (A ++ [i]) <+: RL n R C := by
              rw [← hsn]
              unfold RL
              obtain ⟨t, ht⟩ := List.IsPrefix.filter (fun p => !C.contains p && decide (0 < R p)) (range_pre (show i + 1 ≤ n by omega))
              exact ⟨t, by rw [List.append_assoc, ht]⟩
            have := gv_some (pre_get hpre)
            rw [show A.length = r by omega] at this
            rw [this]
          · rw [if_neg hz, gq_R (by omega) (by omega), if_neg (by decide)]
            have hl : (A ++ [i]).length = A.length + 1 := by rw [List.length_append, List.length_singleton]
            have := ih f (A ++ [i]) (by omega) (by omega) hsn.symm (by rw [hl]; omega)
            rw [hl] at this
            rw [show (r : Int) - (A.length : Int) - 1 = (r : Int) - ((A.length + 1 : Nat) : Int) by omega]
            exact this
      rw [fx_181_78, gq_R (by omega) (by omega), gq_R (by omega) (by omega), if_pos (by omega), gq_ix (by omega) (by omega), Int.toNat_natCast, gq_L hb.2.1 hb.2.2]
      by_cases hp : 0 < R i
      · obtain ⟨x, e1, h1, h2⟩ := g153 hn (by omega) hc (p := i) (by omega)
        rw [if_pos ((hpos i hin).mpr hp), e1, gc_v]
        cases hci : C.contains i with
        | false =>
          rw [h1 hci, gq_R (by omega) (by omega), if_pos rfl]
          exact h115 true (by rw [hci, decide_eq_true hp]; rfl)
        | true =>
          have := h2 hci
          rw [gq_R (by omega) (by omega), if_neg (by omega)]
          exact h115 false (by rw [hci]; rfl)
      · rw [if_neg (fun q => hp ((hpos i hin).mp q))]
        exact h115 false (by rw [decide_eq_false hp, Bool.and_false])
  -- those who have filed
  have k5 : ∀ (m f : Nat) (A : List Nat), m ≤ C.length → m < f → A = (C.take (C.length - m)).filter (fun p => decide (0 < R p)) → A.length ≤ r → fx_181_5 f (d : Int) ((r : Int) - (A.length : Int)) ((C.length - m : Nat) : Int) σ = some (.inl (gv (RL n R C) r), σ) := by
    obtain ⟨c1, c2, c3, c4, c5⟩ := hc
    intro m
    induction m with
    | zero =>
      intro f A _ hf hA hAr
      obtain ⟨f, rfl⟩ : ∃ q, f = q + 1 := ⟨f - 1, by omega⟩
      rw [Nat.sub_zero, List.take_length] at hA
      rw [fx_181_5, gq_ix (by omega) (by omega), Int.toNat_natCast, gq_R (by omega) (by omega), gq_R (by omega) (by omega), if_neg (by omega)]
      have := k78 n gFU A (Nat.le_refl _) (by unfold gFU; omega) (by rw [Nat.sub_self, hA]; simp) hAr
      rw [Nat.sub_self] at this
      exact this
    | succ m ih =>
      intro f A hm hf hA hAr
      obtain ⟨f, rfl⟩ : ∃ q, f = q + 1 := ⟨f - 1, by omega⟩
      generalize hi : C.length - (m + 1) = i at hA ⊢
      have hi2 : C.length - m = i + 1 := by omega
      rw [hi2] at ih
      have hil : i < C.length := by omega
      have hCi := c4 _ (getD_mem hil)
      rw [take_snoc hil, filter_snoc, ← hA] at ih
      generalize hpd : C.getD i 0 = p at hCi ih
      have hb := hnum p hCi
      have h49 : (0 < R p → (r : Int) - (A.length : Int) ≠ 0) → fx_181_49 (fx_181_5 f) (d : Int) ((r : Int) - (A.length : Int)) (i : Int) (p : Int) σ = some (.inl (gv (RL n R C) r), σ) := by
        intro hnz
        unfold fx_181_49
        rw [gq_ix (by omega) (by omega), Int.toNat_natCast, gq_L hb.2.1 hb.2.2, show ((i : Nat) : Int) + 1 = ((i + 1 : Nat) : Int) by omega]
        by_cases hp : 0 < R p
        · have hz := hnz hp
          rw [if_pos ((hpos p hCi).mpr hp)]
          rw [decide_eq_true hp, if_pos rfl] at ih
          have hl : (A ++ [p]).length = A.length + 1 := by rw [List.length_append, List.length_singleton]
          have := ih f (A ++ [p]) (by omega) (by omega) rfl (by rw [hl]; omega)
          rw [hl] at this
          rw [show (r : Int) - (A.length : Int) - 1 = (r : Int) - ((A.length + 1 : Nat) : Int) by omega]
          exact this
        · rw [if_neg (fun q => hp ((hpos p hCi).mp q)), Int.sub_zero]
          rw [decide_eq_false hp, if_neg (by decide), List.append_nil] at ih
          exact ih f A (by omega) (by omega) rfl hAr
      rw [fx_181_5, gq_ix (by omega) (by omega), Int.toNat_natCast, gq_R (by omega) (by omega), gq_R (by omega) (by omega), if_pos (by omega), gq_ix (by omega) (by omega), show (14 * (d : Int) + (i : Int)).toNat = 14 * d + i by omega, c5 i hil, hpd, gq_ix (by omega) (by omega), Int.toNat_natCast, gq_L hb.2.1 hb.2.2]
      by_cases hp : 0 < R p
      · rw [if_pos ((hpos p hCi).mpr hp), gq_R (by omega) (by omega)]
        by_cases hz : (r : Int) - (A.length : Int) = 0
        · rw [if_pos hz]
          have hpre : (A ++ [p]) <+: RL n R C := by
            have h1 : (A ++ [p]) = (C.take (i + 1)).filter (fun p => decide (0 < R p)) := by
              rw [take_snoc hil, filter_snoc, ← hA, hpd, decide_eq_true hp, if_pos rfl]
            rw [h1]
            unfold RL
            exact List.IsPrefix.trans (List.IsPrefix.filter _ (List.take_prefix _ _)) (List.prefix_append _ _)
          have := gv_some (pre_get hpre)
          rw [show A.length = r by omega] at this
          rw [this]
        · rw [if_neg hz]
          exact h49 (fun _ => hz)
      · rw [if_neg (fun q => hp ((hpos p hCi).mp q))]
        exact h49 (fun q => absurd q hp)
  have := k5 C.length gFU [] (Nat.le_refl _) (by have := hc.2.1; unfold gFU; omega) (by rw [Nat.sub_self]; rfl) (Nat.zero_le _)
  rw [Nat.sub_self] at this
  unfold fx_181
  rw [show (r : Int) = (r : Int) - (([] : List Nat).length : Int) by rw [List.length_nil]; omega]
  exact this
theorem g182 (hv : ∀ u, u < 60 → -1 ≤ σ 222 u ∧ σ 222 u < 14) {x : Int} (hx : -1 ≤ x ∧ x < 14) : fx_182 x σ = some (.inl ((ct (fun u => decide (σ 222 u = x)) 60 : Nat) : Int), σ) := by
  have key : ∀ (m f : Nat), m ≤ 60 → m < f → fx_182_4 f x ((ct (fun u => decide (σ 222 u = x)) (60 - m) : Nat) : Int) ((60 - m : Nat) : Int) σ = some (.inl ((ct (fun u => decide (σ 222 u = x)) 60 : Nat) : Int), σ) := by
    intro m
    induction m with
    | zero =>
      intro f _ hf
      obtain ⟨f, rfl⟩ : ∃ q, f = q + 1 := ⟨f - 1, by omega⟩
      rw [fx_182_4, gq_R (by omega) (by omega), if_neg (by omega)]
    | succ m ih =>
      intro f hm hf
      obtain ⟨f, rfl⟩ : ∃ q, f = q + 1 := ⟨f - 1, by omega⟩
      have ihk := ih f (by omega) (by omega)
      generalize hi : 60 - (m + 1) = i
      have hi2 : 60 - m = i + 1 := by omega
      rw [hi2, ct] at ihk
      have hvi := hv i (by omega)
      rw [fx_182_4, gq_R (by omega) (by omega), if_pos (by omega), gq_ix (by omega) (by omega), Int.toNat_natCast, gq_R (by omega) (by omega), gq_R (by omega) (by omega), show ((i : Nat) : Int) + 1 = ((i + 1 : Nat) : Int) by omega]
      by_cases he : σ 222 i = x
      · rw [if_pos he]
        rw [decide_eq_true he, if_pos rfl] at ihk
        exact ihk
      · rw [if_neg he]
        rw [decide_eq_false he, if_neg (by decide)] at ihk
        exact ihk
  have := key 60 gFU (Nat.le_refl _) (by unfold gFU; omega)
  exact this
theorem ct_lt {b : Nat → Bool} {u : Nat} : ∀ {m : Nat}, u < m → b u = true → ct b u + 1 ≤ ct b m := by
  intro m
  induction m with
  | zero => intro h; omega
  | succ m ih =>
    intro h hb
    rw [ct]
    by_cases hq : u = m
    · subst hq; rw [if_pos hb]; exact Nat.le_refl _
    · have := ih (by omega) hb; omega
/-- the sum of the parts rounded down -/
theorem si_flr {U : Nat} (hR : ∀ p, 0 ≤ R p) (hd : C.Nodup) (hm : ∀ p, p ∈ C → p < n) : si (fun k => ((flr U R k : Nat) : Int)) n = ((nsum (flr U R) (RL n R C) : Nat) : Int) := by
  have h1 : ((si (fun k => ((flr U R k : Nat) : Int)) n : Int) : Rat) = (((nsum (flr U R) (RL n R C) : Nat) : Int) : Rat) := by
    rw [si_cast, Rat.intCast_natCast, nsum_cast, RL_sum hd hm (fun p h => by
      have h0 : R p = 0 := by have := hR p; grind
      rw [flr_zero h0]; rfl)]
    exact su_congr (fun p _ => Rat.intCast_natCast _)
  exact Rat.intCast_inj.mp h1
/-- the units of an estate go on -/
theorem g183_74 (hn : n ≤ 14) (hd : d < n) (own : Nat → Int) (hown : ∀ u, u < 60 → -1 ≤ own u ∧ own u < 14) {U : Nat} (hU : ct (fun v => decide (own v = (d : Int))) 60 = U) (hS : SR n R) (hCd : C.Nodup) (hCm : ∀ p, p ∈ C → p < n) (hne : RL n R C ≠ []) :
    ∀ (m f : Nat) (σ1 : gb_S) (rank due : Nat), m ≤ 60 → m < f → σ1 187 3 = (n : Int) → CR σ1 d n C → cs σ1 n R → (∀ u, u < 60 → σ1 222 u = if u < 60 - m then nw own d (DL n U R C) u else own u) → rank ≤ (RL n R C).length → due ≤ 100 → (DL n U R C).drop (ct (fun v => decide (own v = (d : Int))) (60 - m)) = List.replicate due ((RL n R C).getD (rank - 1) 0) ++ deal ((prl U R (ovr U R (RL n R C)) (RL n R C)).drop rank) → (0 < due → 0 < rank) →
    ∃ σ', fx_183_74 f (d : Int) (U : Int) (((RL n R C).length : Nat) : Int) ((ovr U R (RL n R C) : Nat) : Int) (rank : Int) (due : Int) ((60 - m : Nat) : Int) σ1 = some (.inl 0, σ') ∧ (∀ u, u < 60 → σ' 222 u = nw own d (DL n U R C) u) ∧ ∀ c, c ≠ 222 → σ' c = σ1 c := by
  have hU60 : U ≤ 60 := by rw [← hU]; exact ct_le _ _
  have hR1 : su R n = 1 := by
    rcases hS.2.2 with h | h
    · exact h
    · exact absurd (RL_nil hCm h) hne
  have hDlen := DL_len (U := U) (fun p => (hS.1 p).1) hCd hCm hR1
  have hov := ovr_ok (U := U) (fun p => (hS.1 p).1) hCd hCm hR1
  have hHlen : (RL n R C).length ≤ 14 := by
    rw [RL_len (fun p => (hS.1 p).1) hCd hCm]
    exact Nat.le_trans (ct_le _ _) hn
  have hHpos : 0 < (RL n R C).length := List.length_pos_iff.mpr hne
  generalize hL : prl U R (ovr U R (RL n R C)) (RL n R C) = L
  have hLlen : L.length = (RL n R C).length := by rw [← hL, prl_length]
  have hLget : ∀ i, i < L.length → L[i]? = some ((RL n R C).getD i 0, flr U R ((RL n R C).getD i 0) + (if i < ovr U R (RL n R C) then 1 else 0)) := fun i hi => by
    rw [← hL, prl_get U R _ _ i (by omega)]
  have hgvH : ∀ i, i < (RL n R C).length → gv (RL n R C) i = (((RL n R C).getD i 0 : Nat) : Int) := fun i hi => gv_some (by
    rw [List.getD_eq_getElem?_getD, List.getElem?_eq_getElem hi, Option.getD_some])
  have hHlt : ∀ i, i < (RL n R C).length → (RL n R C).getD i 0 < n := fun i hi => (RL_mem hCm (getD_mem hi)).1
  generalize hH : RL n R C = H at *
  generalize hD : DL n U R C = D at *
  intro m
  induction m with
  | zero =>
    intro f σ1 rank due _ hf h3 hcr hcs hrow _ _ _ _
    obtain ⟨f, rfl⟩ : ∃ q, f = q + 1 := ⟨f - 1, by omega⟩
    refine ⟨σ1, ?_, fun u hu => by rw [hrow u hu, if_pos (by omega)], fun _ _ => rfl⟩
    rw [fx_183_74, gq_R (by omega) (by omega), if_neg (by omega)]
  | succ m ih =>
    intro f σ1 rank due hm hf h3 hcr hcs hrow hrl hdue hdr hdr0
    obtain ⟨f, rfl⟩ : ∃ q, f = q + 1 := ⟨f - 1, by omega⟩
    generalize hi : 60 - (m + 1) = i at hrow hdr ⊢
    have hi2 : 60 - m = i + 1 := by omega
    rw [hi2] at ih
    have hi60 : i < 60 := by omega
    have hoi := hown i hi60
    have hri : σ1 222 i = own i := by rw [hrow i hi60, if_neg (by omega)]
    rw [fx_183_74, gq_R (by omega) (by omega), if_pos (by omega), gq_ix (by omega) (by omega), Int.toNat_natCast, hri, gq_R (by omega) (by omega), gq_R (by omega) (by omega)]
    by_cases hod : own i = (d : Int)
    · have hctS : ct (fun v => decide (own v = (d : Int))) (i + 1) = ct (fun v => decide (own v = (d : Int))) i + 1 := by rw [ct, decide_eq_true hod, if_pos rfl]
      have hjU : ct (fun v => decide (own v = (d : Int))) i + 1 ≤ U := by rw [← hU]; exact ct_lt hi60 (decide_eq_true hod)
      generalize hj : ct (fun v => decide (own v = (d : Int))) i = j at hdr hctS hjU
      have hnwi : nw own d D i = gv D j := by unfold nw; rw [if_pos hod, hj]
      rw [if_pos hod, gq_R (by omega) (by omega), if_neg (by omega)]
      unfold fx_183_107
      rw [gq_ix (by omega) (by omega), Int.toNat_natCast, hri, gq_R (by omega) (by omega), gq_R (by omega) (by omega), if_pos hod]
      -- until somebody has a part
      have k118 : ∀ (m2 f2 rank due : Nat), H.length ≤ rank + m2 → m2 + 1 < f2 → rank ≤ H.length → due ≤ 100 → D.drop j = List.replicate due (H.getD (rank - 1) 0) ++ deal (L.drop rank) → (0 < due → 0 < rank) → ∃ σ', fx_183_118 f2 (fx_183_74 f) (d : Int) (U : Int) ((H.length : Nat) : Int) ((ovr U R H : Nat) : Int) (rank : Int) (due : Int) (i : Int) σ1 = some (.inl 0, σ') ∧ (∀ u, u < 60 → σ' 222 u = nw own d D u) ∧ ∀ c, c ≠ 222 → σ' c = σ1 c := by
        intro m2
        have hgo : ∀ (f2 rank due : Nat), 0 < f2 → rank ≤ H.length → due ≤ 100 → D.drop j = List.replicate due (H.getD (rank - 1) 0) ++ deal (L.drop rank) → (0 < due → 0 < rank) → 0 < due → ∃ σ', fx_183_118 f2 (fx_183_74 f) (d : Int) (U : Int) ((H.length : Nat) : Int) ((ovr U R H : Nat) : Int) (rank : Int) (due : Int) (i : Int) σ1 = some (.inl 0, σ') ∧ (∀ u, u < 60 → σ' 222 u = nw own d D u) ∧ ∀ c, c ≠ 222 → σ' c = σ1 c := by
          intro f2 rank due hf2 hrl hdue hdr hdr0 hpos
          obtain ⟨f2, rfl⟩ : ∃ q, f2 = q + 1 := ⟨f2 - 1, by omega⟩
          have hr0 := hdr0 hpos
          have h181 := g181 (r := rank - 1) hn hd h3 hcr hcs hS.1 (by omega)
          rw [hH, hgvH (rank - 1) (by omega), show ((rank - 1 : Nat) : Int) = (rank : Int) - 1 by omega] at h181
          rw [fx_183_118, gq_R (by omega) (by omega), if_neg (by omega), h181, gc_v, gq_ix (by omega) (by omega), Int.toNat_natCast, show ((i : Nat) : Int) + 1 = ((i + 1 : Nat) : Int) by omega, show (due : Int) + (-1) = ((due - 1 : Nat) : Int) by omega]
          obtain ⟨e, he⟩ : ∃ e, due = e + 1 := ⟨due - 1, by omega⟩
          have hDj : gv D j = ((H.getD (rank - 1) 0 : Nat) : Int) := gv_some (by
            have h9 : (D.drop j)[0]? = D[j]? := by rw [List.getElem?_drop, Nat.add_zero]
            rw [← h9, hdr, he]
            rfl)
          have hDj1 : D.drop (j + 1) = List.replicate (due - 1) (H.getD (rank - 1) 0) ++ deal (L.drop rank) := by
            rw [← List.drop_drop, hdr, he]
            rfl
          obtain ⟨s4, e4, r4, f4⟩ := ih f (gb_up σ1 222 i ((H.getD (rank - 1) 0 : Nat) : Int)) rank (due - 1) (by omega) (by omega) (by rw [up_ne _ _ _ _ (by omega)]; exact h3) (CR_cong (up_ne _ _ _ _ (by omega)) (up_ne _ _ _ _ (by omega)) hcr) (by unfold cs; rw [up_ne _ _ _ _ (by omega), up_ne _ _ _ _ (by omega)]; exact hcs) (fun u hu => by
            by_cases hui : u = i
            · subst hui
              rw [up_eq, if_pos (by omega), hnwi, hDj]
            · rw [up_nj _ _ _ _ hui, hrow u hu]
              by_cases huu : u < i
              · rw [if_pos huu, if_pos (by omega)]
              · rw [if_neg huu, if_neg (by omega)]) hrl (by omega) (by rw [hctS]; exact hDj1) (fun _ => hr0)
          exact ⟨s4, e4, r4, fun c hc => by rw [f4 c hc, up_ne _ _ _ _ hc]⟩
        induction m2 with
        | zero =>
          intro f2 rank due hm2 hf2 hrl hdue hdr hdr0
          by_cases hpos : 0 < due
          · exact hgo f2 rank due (by omega) hrl hdue hdr hdr0 hpos
          · -- all has been dealt, but a unit is left: that can't be
            have hd0 : due = 0 := by omega
            rw [hd0, show rank = L.length by omega, List.drop_length] at hdr
            have := congrArg List.length hdr
            rw [List.length_drop, hDlen] at this
            have h0 : (List.replicate 0 (H.getD (L.length - 1) 0) ++ deal []).length = 0 := rfl
            rw [h0] at this
            omega
        | succ m2 ih2 =>
          intro f2 rank due hm2 hf2 hrl hdue hdr hdr0
          by_cases hpos : 0 < due
          · exact hgo f2 rank due (by omega) hrl hdue hdr hdr0 hpos
          · obtain ⟨f2, rfl⟩ : ∃ q, f2 = q + 1 := ⟨f2 - 1, by omega⟩
            have hd0 : due = 0 := by omega
            subst hd0
            have hdr1 : D.drop j = deal (L.drop rank) := hdr
            have hrk : rank < H.length := by
              refine Nat.lt_of_le_of_ne hrl (fun h => ?_)
              rw [show rank = L.length by omega, List.drop_length] at hdr1
              have := congrArg List.length hdr1
              rw [List.length_drop, hDlen] at this
              have h0 : (deal []).length = 0 := rfl
              rw [h0] at this
              omega
            have h181 := g181 (r := rank) hn hd h3 hcr hcs hS.1 (by omega)
            rw [hH, hgvH rank hrk] at h181
            have hpn := hHlt rank hrk
            generalize hp : H.getD rank 0 = p at h181 hpn
            have hb := hS.1 p
            have hnd := num_le_den hb.2.1
            have hn0 : 0 ≤ (R p).num := Rat.num_nonneg.mpr hb.1
            have hdd := hb.2.2
            have hd0 := (R p).den_pos
            have hm1 : (U : Int) * (R p).num ≤ 60 * 1000000000 := Int.mul_le_mul (by omega) (by omega) (by omega) (by omega)
            have hm0 : 0 ≤ (U : Int) * (R p).num := Int.mul_nonneg (by omega) hn0
            have hfb := flr_b hS.1 U p
            rw [fx_183_118, gq_R (by omega) (by omega), if_pos (by omega), h181, gc_v, gq_R (by omega) (by omega), gq_ix (by omega) (by omega), Int.toNat_natCast, (hcs p hpn).1, (hcs p hpn).2, gq_D (by omega) (by omega) (by omega) (by omega), gq_R (by omega) (by omega), gq_R (by omega) (by omega), ← flr_cast hb.1, show ((rank : Nat) : Int) + 1 = ((rank + 1 : Nat) : Int) by omega]
            have hLg : L[rank]'(by omega) = (p, flr U R p + (if rank < ovr U R H then 1 else 0)) := by
              have := hLget rank (by omega)
              rw [List.getElem?_eq_getElem (by omega), hp] at this
              exact Option.some.inj this
            have hdr2 := deal_drop (L := L) (h := rank) (by omega)
            rw [hLg] at hdr2
            rw [hdr2] at hdr1
            dsimp only at hdr1
            by_cases hro : rank < ovr U R H
            · rw [if_pos (by omega)]
              rw [if_pos hro] at hdr1
              have := ih2 f2 (rank + 1) (flr U R p + 1) (by omega) (by omega) (by omega) (by omega) (by rw [Nat.add_sub_cancel, hp]; exact hdr1) (fun _ => by omega)
              rw [show ((flr U R p + 1 : Nat) : Int) = ((flr U R p : Nat) : Int) + 1 by omega] at this
              exact this
            · rw [if_neg (by omega)]
              rw [if_neg hro] at hdr1
              have := ih2 f2 (rank + 1) (flr U R p + 0) (by omega) (by omega) (by omega) (by omega) (by rw [Nat.add_sub_cancel, hp]; exact hdr1) (fun _ => by omega)
              rw [show ((flr U R p + 0 : Nat) : Int) = ((flr U R p : Nat) : Int) + 0 by omega] at this
              exact this
      exact k118 H.length gFU rank due (by omega) (by unfold gFU; omega) hrl hdue hdr hdr0
    · rw [if_neg hod]
      unfold fx_183_107
      rw [gq_ix (by omega) (by omega), Int.toNat_natCast, hri, gq_R (by omega) (by omega), gq_R (by omega) (by omega), if_neg hod, show ((i : Nat) : Int) + 1 = ((i + 1 : Nat) : Int) by omega]
      have hctS : ct (fun v => decide (own v = (d : Int))) (i + 1) = ct (fun v => decide (own v = (d : Int))) i := by rw [ct, decide_eq_false hod, if_neg (by decide), Nat.add_zero]
      have hnwi : nw own d D i = own i := by unfold nw; rw [if_neg hod]
      refine ih f σ1 rank due (by omega) (by omega) h3 hcr hcs (fun u hu => ?_) hrl hdue (by rw [hctS]; exact hdr) hdr0
      rw [hrow u hu]
      by_cases hui : u = i
      · subst hui
        rw [if_neg (by omega), if_pos (by omega), hnwi]
      · by_cases huu : u < i
        · rw [if_pos huu, if_pos (by omega)]
        · rw [if_neg huu, if_neg (by omega)]
/-- without heirs they belong to nobody -/
theorem g183_74n (hd : d < 14) (own : Nat → Int) (hown : ∀ u, u < 60 → -1 ≤ own u ∧ own u < 14) (U over : Int) :
    ∀ (m f : Nat) (σ1 : gb_S), m ≤ 60 → m < f → (∀ u, u < 60 → σ1 222 u = if u < 60 - m then nw own d [] u else own u) →
    ∃ σ', fx_183_74 f (d : Int) U 0 over 0 0 ((60 - m : Nat) : Int) σ1 = some (.inl 0, σ') ∧ (∀ u, u < 60 → σ' 222 u = nw own d [] u) ∧ ∀ c, c ≠ 222 → σ' c = σ1 c := by
  intro m
  induction m with
  | zero =>
    intro f σ1 _ hf hrow
    obtain ⟨f, rfl⟩ : ∃ q, f = q + 1 := ⟨f - 1, by omega⟩
    refine ⟨σ1, ?_, fun u hu => by rw [hrow u hu, if_pos (by omega)], fun _ _ => rfl⟩
    rw [fx_183_74, gq_R (by omega) (by omega), if_neg (by omega)]
  | succ m ih =>
    intro f σ1 hm hf hrow
    obtain ⟨f, rfl⟩ : ∃ q, f = q + 1 := ⟨f - 1, by omega⟩
    generalize hi : 60 - (m + 1) = i at hrow ⊢
    have hi2 : 60 - m = i + 1 := by omega
    rw [hi2] at ih
    have hi60 : i < 60 := by omega
    have hoi := hown i hi60
    have hri : σ1 222 i = own i := by rw [hrow i hi60, if_neg (by omega)]
    rw [fx_183_74, gq_R (by omega) (by omega), if_pos (by omega), gq_ix (by omega) (by omega), Int.toNat_natCast, hri, gq_R (by omega) (by omega), gq_R (by omega) (by omega)]
    by_cases hod : own i = (d : Int)
    · have hnwi : nw own d [] i = -1 := by unfold nw; rw [if_pos hod]; rfl
      rw [if_pos hod, gq_R (by omega) (by omega), if_pos rfl, show ((i : Nat) : Int) + 1 = ((i + 1 : Nat) : Int) by omega]
      obtain ⟨s4, e4, r4, f4⟩ := ih f (gb_up σ1 222 i (-1)) (by omega) (by omega) (fun u hu => by
        by_cases hui : u = i
        · subst hui
          rw [up_eq, if_pos (by omega), hnwi]
        · rw [up_nj _ _ _ _ hui, hrow u hu]
          by_cases huu : u < i
          · rw [if_pos huu, if_pos (by omega)]
          · rw [if_neg huu, if_neg (by omega)])
      exact ⟨s4, e4, r4, fun c hc => by rw [f4 c hc, up_ne _ _ _ _ hc]⟩
    · rw [if_neg hod]
      unfold fx_183_107
      rw [gq_ix (by omega) (by omega), Int.toNat_natCast, hri, gq_R (by omega) (by omega), gq_R (by omega) (by omega), if_neg hod, show ((i : Nat) : Int) + 1 = ((i + 1 : Nat) : Int) by omega]
      have hnwi : nw own d [] i = own i := by unfold nw; rw [if_neg hod]
      refine ih f σ1 (by omega) (by omega) (fun u hu => ?_)
      rw [hrow u hu]
      by_cases hui : u = i
      · subst hui
        rw [if_neg (by omega), if_pos (by omega), hnwi]
      · by_cases huu : u < i
        · rw [if_pos huu, if_pos (by omega)]
        · rw [if_neg huu, if_neg (by omega)]
/-- how many heirs, by the shares found last -/
theorem g169_9 (hn : n ≤ 14) (h3 : σ 187 3 = (n : Int)) (hcs : cs σ n R) (hR : ∀ p, 0 ≤ R p ∧ R p ≤ 1 ∧ (R p).den ≤ 1000000000) : fx_169_9 gFU 0 0 σ = some (.inl ((ct (fun p => decide (0 < R p)) n : Nat) : Int), σ) := by
  have key : ∀ (m f : Nat), m ≤ n → m < f → fx_169_9 f ((ct (fun p => decide (0 < R p)) (n - m) : Nat) : Int) ((n - m : Nat) : Int) σ = some (.inl ((ct (fun p => decide (0 < R p)) n : Nat) : Int), σ) := by
    intro m
    induction m with
    | zero =>
      intro f _ hf
      obtain ⟨f, rfl⟩ : ∃ q, f = q + 1 := ⟨f - 1, by omega⟩
      rw [fx_169_9, gq_R (by omega) (by omega), gq_R (by omega) (by omega), if_neg (by omega), Nat.sub_zero]
    | succ m ih =>
      intro f hm hf
      obtain ⟨f, rfl⟩ : ∃ q, f = q + 1 := ⟨f - 1, by omega⟩
      have ihk := ih f (by omega) (by omega)
      generalize hi : n - (m + 1) = i
      have hi2 : n - m = i + 1 := by omega
      rw [hi2, ct] at ihk
      have hin : i < n := by omega
      have hb := hR i
      have hnd := num_le_den hb.2.1
      have hn0 : 0 ≤ (R i).num := Rat.num_nonneg.mpr hb.1
      have hdd := hb.2.2
      rw [fx_169_9, gq_R (by omega) (by omega), gq_R (by omega) (by omega), if_pos (by omega), gq_ix (by omega) (by omega), Int.toNat_natCast, (hcs i hin).1, gq_L (by omega) (by omega), show ((i : Nat) : Int) + 1 = ((i + 1 : Nat) : Int) by omega]
      have h4 := num_pos hb.1
      by_cases hp : 0 < R i
      · have : ¬ (R i).num = 0 := fun q => h4.mp q hp
        rw [if_pos (by omega)]
        rw [decide_eq_true hp, if_pos rfl] at ihk
        exact ihk
      · have := h4.mpr hp
        rw [if_neg (by omega)]
        rw [decide_eq_false hp, if_neg (by decide)] at ihk
        exact ihk
  have := key n gFU (Nat.le_refl _) (by unfold gFU; omega)
  rw [Nat.sub_self] at this
  exact this
end LR1
