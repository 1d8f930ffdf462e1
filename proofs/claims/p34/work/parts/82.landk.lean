section LK1
def DC (σ : gb_S) (nd : Nat) (De : Nat → dT) : Prop := σ 30 5 = (nd : Int) ∧ ∀ k, k < nd → σ 35 k = (if (De k).1 = 2 then 1 else 0) ∧ σ 33 k = ((De k).2.2.2.1 : Int) ∧ σ 34 k = ((De k).2.2.2.2 : Int) ∧ σ 31 k = (if (De k).1 = 0 then -1 else ((De k).2.1 : Int)) ∧ ((De k).1 = 0 → σ 32 k = ((De k).2.1 : Int)) ∧ ((De k).1 = 1 → σ 32 k = ((De k).2.2.1 : Int))
/-- no unit is granted twice -/
def GD (nd : Nat) (De : Nat → dT) : Prop := ∀ k, k < nd → (De k).1 = 0 → ∀ j, j < k → (De j).1 = 0 → ∀ u, (De k).2.2.2.1 ≤ u → u < (De k).2.2.2.2 → ¬ ((De j).2.2.2.1 ≤ u ∧ u < (De j).2.2.2.2)
variable {σ : gb_S} {n nd : Nat} {De : Nat → dT} {Cf : Nat → List Nat} {Rf : Nat → Nat → Rat}
theorem DC_cong {σ' : gb_S} (h5 : σ' 30 5 = σ 30 5) (h : ∀ c, 31 ≤ c → c ≤ 35 → σ' c = σ c) (hd : DC σ nd De) : DC σ' nd De := by
  unfold DC
  rw [h5, h 31 (by omega) (by omega), h 32 (by omega) (by omega), h 33 (by omega) (by omega), h 34 (by omega) (by omega), h 35 (by omega) (by omega)]
  exact hd
/-- what was never granted belongs to nobody -/
theorem ow_none {u : Nat} : ∀ {k : Nat}, (∀ j, j < k → (De j).1 = 0 → ¬ ((De j).2.2.2.1 ≤ u ∧ u < (De j).2.2.2.2)) → ow n Rf Cf De k u = -1 := by
  intro k
  induction k with
  | zero => intro _; rfl
  | succ k ih =>
    intro h
    have ih := ih (fun j hj => h j (by omega))
    rw [ow, dst]
    split
    · unfold inhS nw
      rw [if_neg (by rw [ih]; omega)]
      exact ih
    · dsimp only
      split
      · next hr =>
        split
        · next h0 => exact absurd hr (h k (by omega) h0)
        · rw [if_neg (by rw [ih]; omega)]
          exact ih
      · exact ih
/-- a deed that is no closing, as the class does it -/
theorem dst_ho (hG : GD nd De) {k : Nat} (hk : k < nd) (h2 : (De k).1 ≤ 2 ∧ ¬ (De k).1 = 2) (u : Nat) : dst n Rf Cf (De k) (ow n Rf Cf De k) u = if ((De k).2.2.2.1 ≤ u ∧ u < (De k).2.2.2.2) ∧ ow n Rf Cf De k u = (if (De k).1 = 0 then -1 else ((De k).2.1 : Int)) then (if (De k).1 = 0 then ((De k).2.1 : Int) else ((De k).2.2.1 : Int)) else ow n Rf Cf De k u := by
  unfold dst
  rw [if_neg h2.2]
  by_cases hr : (De k).2.2.2.1 ≤ u ∧ u < (De k).2.2.2.2
  · rw [if_pos hr]
    by_cases h0 : (De k).1 = 0
    · have hn := ow_none (n := n) (Rf := Rf) (Cf := Cf) (u := u) (k := k) (fun j hj hj0 => hG k hk h0 j hj hj0 u hr.1 hr.2)
      rw [if_pos h0, if_pos h0, if_pos h0, if_pos ⟨hr, hn⟩]
    · rw [if_neg h0, if_neg h0, if_neg h0]
      by_cases ho : ow n Rf Cf De k u = ((De k).2.1 : Int)
      · rw [if_pos ho, if_pos ⟨hr, ho⟩]
      · rw [if_neg ho, if_neg (fun q => ho q.2)]
  · rw [if_neg hr, if_neg (fun q => hr q.1)]
/-- handOver -/
theorem g51 {a : Nat} (ha : a = 37 ∨ a = 38) (hn : n ≤ 14) (hD : DC σ nd De) (hV : DV n nd De) {k : Nat} (hk : k < nd) (h2 : ¬ (De k).1 = 2) (hrow : ∀ u, u < 60 → -1 ≤ σ a u ∧ σ a u < 14) : ∃ σ', fx_51 a (k : Int) σ = some (.inl 0, σ') ∧ (∀ u, u < 60 → σ' a u = if ((De k).2.2.2.1 ≤ u ∧ u < (De k).2.2.2.2) ∧ σ a u = (if (De k).1 = 0 then -1 else ((De k).2.1 : Int)) then (if (De k).1 = 0 then ((De k).2.1 : Int) else ((De k).2.2.1 : Int)) else σ a u) ∧ ∀ c, c ≠ a → σ' c = σ c := by
  have hl : gb_ln a = 60 := by rcases ha with rfl | rfl <;> rfl
  have h5 := hD.1
  have hDk := hD.2 k hk
  have hVk := hV.2 k hk
  have hnd := hV.1
  generalize hb : (De k).2.2.2.1 = b at *
  generalize ht : (De k).2.2.2.2 = t at *
  have h31 : -1 ≤ σ 31 k ∧ σ 31 k < 14 := by rw [hDk.2.2.2.1]; split <;> omega
  have h32 : σ 32 k = (if (De k).1 = 0 then ((De k).2.1 : Int) else ((De k).2.2.1 : Int)) := by
    by_cases h0 : (De k).1 = 0
    · rw [if_pos h0, hDk.2.2.2.2.1 h0]
    · rw [if_neg h0, hDk.2.2.2.2.2 (by omega)]
  rw [← hDk.2.2.2.1, ← h32]
  have key : ∀ (m f : Nat) (σ1 : gb_S), m ≤ t - b → m < f → (∀ c, c ≠ a → σ1 c = σ c) → (∀ u, u < 60 → σ1 a u = if (b ≤ u ∧ u < t - m) ∧ σ a u = σ 31 k then σ 32 k else σ a u) → ∃ σ', fx_51_24 f a (k : Int) ((t - m : Nat) : Int) σ1 = some (.inl 0, σ') ∧ (∀ u, u < 60 → σ' a u = if (b ≤ u ∧ u < t) ∧ σ a u = σ 31 k then σ 32 k else σ a u) ∧ ∀ c, c ≠ a → σ' c = σ c := by
    intro m
    induction m with
    | zero =>
      intro f σ1 _ hf f1 hr
      obtain ⟨f, rfl⟩ : ∃ q, f = q + 1 := ⟨f - 1, by omega⟩
      refine ⟨σ1, ?_, hr, f1⟩
      rw [fx_51_24, gq_ix (by omega) (by omega), gq_R (by omega) (by omega), Int.toNat_natCast, f1 34 (by omega), hDk.2.2.1, gq_R (by omega) (by omega), if_neg (by omega)]
    | succ m ih =>
      intro f σ1 hm hf f1 hr
      obtain ⟨f, rfl⟩ : ∃ q, f = q + 1 := ⟨f - 1, by omega⟩
      generalize hv : t - (m + 1) = v at hr ⊢
      have hv2 : t - m = v + 1 := by omega
      rw [hv2] at ih
      have hv60 : v < 60 := by omega
      have hrv : σ1 a v = σ a v := by rw [hr v hv60, if_neg (fun q => by omega)]
      have hov := hrow v hv60
      rw [fx_51_24, gq_ix (by omega) (by omega), gq_R (by omega) (by omega), Int.toNat_natCast, f1 34 (by omega), hDk.2.2.1, gq_R (by omega) (by omega), if_pos (by omega), hl, gq_R (by decide) (by decide), if_pos (by omega), gq_ix (by omega) (by omega), Int.toNat_natCast, hrv, gq_R (by omega) (by omega), f1 31 (by omega), gq_R (by omega) (by omega), show ((v : Nat) : Int) + 1 = ((v + 1 : Nat) : Int) by omega]
      by_cases he : σ a v = σ 31 k
      · rw [if_pos he, f1 32 (by omega)]
        exact ih f (gb_up σ1 a v (σ 32 k)) (by omega) (by omega) (fun c hc => by rw [up_ne _ _ _ _ hc, f1 c hc]) (fun u hu => by
          by_cases huv : u = v
          · subst huv
            rw [up_eq, if_pos ⟨⟨by omega, by omega⟩, he⟩]
          · rw [up_nj _ _ _ _ huv, hr u hu]
            by_cases hq : (b ≤ u ∧ u < v) ∧ σ a u = σ 31 k
            · rw [if_pos hq, if_pos ⟨⟨hq.1.1, by omega⟩, hq.2⟩]
            · rw [if_neg hq, if_neg (fun q => hq ⟨⟨q.1.1, by omega⟩, q.2⟩)])
      · rw [if_neg he]
        exact ih f σ1 (by omega) (by omega) f1 (fun u hu => by
          rw [hr u hu]
          by_cases huv : u = v
          · subst huv
            rw [if_neg (fun q => he q.2), if_neg (fun q => he q.2)]
          · by_cases hq : (b ≤ u ∧ u < v) ∧ σ a u = σ 31 k
            · rw [if_pos hq, if_pos ⟨⟨hq.1.1, by omega⟩, hq.2⟩]
            · rw [if_neg hq, if_neg (fun q => hq ⟨⟨q.1.1, by omega⟩, q.2⟩)])
  have := key (t - b) gFU σ (Nat.le_refl _) (by unfold gFU; omega) (fun _ _ => rfl) (fun u hu => by rw [if_neg (fun q => by omega)])
  rw [show t - (t - b) = b by omega] at this
  obtain ⟨s2, e2, r2, f2⟩ := this
  refine ⟨s2, ?_, r2, f2⟩
  unfold fx_51
  rw [gq_R (by omega) (by omega), if_neg (by omega), gq_R (by omega) (by omega), if_pos (by omega), gq_ix (by omega) (by omega), Int.toNat_natCast, hDk.2.1, gq_R (by omega) (by omega), show max ((b : Nat) : Int) 0 = (b : Int) by omega]
  exact e2
theorem g56 {x : Int} (hx : 0 ≤ x ∧ x < 14) : fx_56 x σ = some (.inl 1, σ) := by
  unfold fx_56
  rw [gq_R (by omega) (by omega), if_neg (by omega), if_pos (by omega)]
/-- the estates of the class: claims, and shares at offset o -/
def EC (σ : gb_S) (n o : Nat) (Cf : Nat → List Nat) (Rf : Nat → Nat → Rat) (d : Nat) : Prop := σ (47 + 10 * d) 0 = (d : Int) ∧ CL σ (47 + 10 * d) n (Cf d) ∧ cm σ (47 + 10 * d + o) (Rf d)
theorem EC_cong {σ' : gb_S} {o d : Nat} (h1 : σ' (47 + 10 * d) = σ (47 + 10 * d)) (h2 : σ' (47 + 10 * d + 2) = σ (47 + 10 * d + 2)) (h3 : σ' (47 + 10 * d + o + 1) = σ (47 + 10 * d + o + 1)) (h4 : σ' (47 + 10 * d + o + 2) = σ (47 + 10 * d + o + 2)) (h : EC σ n o Cf Rf d) : EC σ' n o Cf Rf d := ⟨by rw [h1]; exact h.1, CL_cong h1 h2 h.2.1, cm_cong h3 h4 h.2.2⟩
/-- a draw with the shares of an estate -/
theorem g53d {a o d : Nat} (hn : n ≤ 14) (ha : a = 37 ∨ a = 38) (hd : d < n) (ho : o = 3 ∨ o = 6) (own : Nat → Int) (hown : ∀ u, -1 ≤ own u ∧ own u < (n : Int)) (hrow : ∀ u, u < 60 → σ a u = own u) (hE : EC σ n o Cf Rf d) (hS : SR n (Rf d)) : ∃ σ', fx_53 a (47 + 10 * d) (47 + 10 * d + o) σ = some (.inl 0, σ') ∧ (∀ u, u < 60 → σ' a u = inhS n (Rf d) (Cf d) d own u) ∧ ∀ c, c ≠ 39 → c ≠ 40 → c ≠ a → σ' c = σ c := by
  obtain ⟨s1, e1, r1, f1⟩ := g53 (σ := σ) (a := a) (e := 47 + 10 * d) (s := 47 + 10 * d + o) hn ha ⟨d, by omega, rfl⟩ (d := d) (by omega) (by omega) (fun u hu => by rw [hrow u hu]; have := hown u; omega) hE.1 hE.2.1 hE.2.2 hS
  refine ⟨s1, e1, fun u hu => ?_, f1⟩
  rw [r1 u hu]
  exact inh_congr (n := n) (R := Rf d) (C := Cf d) (d := d) (own := σ a) (own' := own) hrow hu
/-- the owner as found anew -/
theorem g50 (hn : n ≤ 14) (hD : DC σ nd De) (hV : DV n nd De) (hG : GD nd De) (hCV : CV n Cf) (hE : ∀ k, k < nd → (De k).1 = 2 → EC σ n 6 Cf Rf (De k).2.1) (hS : ∀ d, d < n → SR n (Rf d)) {x : Nat} (hx : x < 60) : ∃ σ', fx_50 (x : Int) σ = some (.inl (ow n Rf Cf De nd x), σ') ∧ ∀ c, c ≠ 38 → c ≠ 39 → c ≠ 40 → σ' c = σ c := by
  have hnd := hV.1
  have key : ∀ (m f : Nat) (σ1 : gb_S), m ≤ nd → m < f → (∀ c, c ≠ 38 → c ≠ 39 → c ≠ 40 → σ1 c = σ c) → (∀ u, u < 60 → σ1 38 u = ow n Rf Cf De (nd - m) u) → ∃ σ', fx_50_10 f (x : Int) ((nd - m : Nat) : Int) σ1 = some (.inl (ow n Rf Cf De nd x), σ') ∧ ∀ c, c ≠ 38 → c ≠ 39 → c ≠ 40 → σ' c = σ c := by
    intro m
    induction m with
    | zero =>
      intro f σ1 _ hf f1 hr
      obtain ⟨f, rfl⟩ : ∃ q, f = q + 1 := ⟨f - 1, by omega⟩
      have h5 : σ1 30 5 = (nd : Int) := by rw [f1 30 (by omega) (by omega) (by omega)]; exact hD.1
      refine ⟨σ1, ?_, f1⟩
      rw [fx_50_10, gq_R (by omega) (by omega), gq_R (by omega) (by omega), if_neg (by omega), gq_R (by omega) (by omega), if_neg (by omega), if_pos (by omega), gq_ix (by omega) (by omega), Int.toNat_natCast, hr x hx, Nat.sub_zero]
    | succ m ih =>
      intro f σ1 hm hf f1 hr
      obtain ⟨f, rfl⟩ : ∃ q, f = q + 1 := ⟨f - 1, by omega⟩
      have hD1 : DC σ1 nd De := DC_cong (by rw [f1 30 (by omega) (by omega) (by omega)]) (fun c h1 h2 => f1 c (by omega) (by omega) (by omega)) hD
      have h5 := hD1.1
      generalize hi : nd - (m + 1) = i at hr ⊢
      have hi2 : nd - m = i + 1 := by omega
      rw [hi2] at ih
      have hin : i < nd := by omega
      have hVi := hV.2 i hin
      have hDi := hD1.2 i hin
      have hob := ow_b (Rf := Rf) hV hCV (k := i) (by omega)
      rw [fx_50_10, gq_R (by omega) (by omega), gq_R (by omega) (by omega), if_pos (by omega), gq_ix (by omega) (by omega), Int.toNat_natCast, hDi.1, show ((i : Nat) : Int) + 1 = ((i + 1 : Nat) : Int) by omega]
      by_cases h2 : (De i).1 = 2
      · have h31 : σ1 31 i = ((De i).2.1 : Int) := by rw [hDi.2.2.2.1, if_neg (by omega)]
        rw [if_pos h2, gq_R (by omega) (by omega), if_neg (by omega), h31, g56 (by omega), gc_v, gq_R (by omega) (by omega), if_neg (by omega), h31, gq_ix (by omega) (by omega), Int.toNat_natCast]
        obtain ⟨s2, e2, r2, f2⟩ := g53d (σ := σ1) (a := 38) (o := 6) (Cf := Cf) (Rf := Rf) (d := (De i).2.1) hn (Or.inr rfl) hVi.2.1 (Or.inr rfl) (ow n Rf Cf De i) hob hr (EC_cong (f1 _ (by omega) (by omega) (by omega)) (f1 _ (by omega) (by omega) (by omega)) (f1 _ (by omega) (by omega) (by omega)) (f1 _ (by omega) (by omega) (by omega)) (hE i hin h2)) (hS _ hVi.2.1)
        rw [e2, gc_v]
        exact ih f s2 (by omega) (by omega) (fun c h1 h2 h3 => by rw [f2 c h2 h3 h1, f1 c h1 h2 h3]) (fun u hu => by
          rw [r2 u hu, ow]
          unfold dst
          rw [if_pos h2])
      · rw [if_neg h2, gq_R (by omega) (by omega), if_pos rfl]
        obtain ⟨s2, e2, r2, f2⟩ := g51 (a := 38) (Or.inr rfl) hn hD1 hV hin h2 (fun u hu => by rw [hr u hu]; have := hob u; omega)
        rw [e2, gc_v]
        exact ih f s2 (by omega) (by omega) (fun c h1 h2 h3 => by rw [f2 c h1, f1 c h1 h2 h3]) (fun u hu => by
          rw [r2 u hu, hr u hu, ow, dst_ho hG hin ⟨hVi.1, h2⟩ u])
  have := key nd gFU (gb_fi σ 38 (-1)) (Nat.le_refl _) (by unfold gFU; omega) (fun c h1 h2 h3 => fi_ne _ _ _ h1) (fun u hu => by rw [fi_eq, Nat.sub_self]; rfl)
  rw [Nat.sub_self] at this
  exact this
/-- drawKept: the land before is noted, too -/
theorem g52 {d : Nat} (hn : n ≤ 14) (hd : d < n) (own : Nat → Int) (hown : ∀ u, -1 ≤ own u ∧ own u < (n : Int)) (hrow : ∀ u, u < 60 → σ 37 u = own u) (hE : EC σ n 3 Cf Rf d) (hS : SR n (Rf d)) : ∃ σ', fx_52 (47 + 10 * d) σ = some (.inl 0, σ') ∧ (∀ u, u < 60 → σ' 37 u = inhS n (Rf d) (Cf d) d own u) ∧ (∀ u, u < 60 → σ' (56 + 10 * d) u = own u) ∧ ∀ c, c ≠ 39 → c ≠ 40 → c ≠ 37 → c ≠ 56 + 10 * d → σ' c = σ c := by
  have e9 : 47 + 10 * d + 9 = 56 + 10 * d := by omega
  generalize hs1 : gb_cp σ 37 (56 + 10 * d) = s1
  have f1 : ∀ c, c ≠ 56 + 10 * d → s1 c = σ c := fun c hc => by rw [← hs1, cp_ne _ _ _ hc]
  have v1 : s1 (56 + 10 * d) = σ 37 := by rw [← hs1, cp_eq]
  obtain ⟨s2, e2, r2, f2⟩ := g53d (σ := s1) (a := 37) (o := 3) (Cf := Cf) (Rf := Rf) (d := d) hn (Or.inl rfl) hd (Or.inl rfl) own hown (fun u hu => by rw [f1 37 (by omega)]; exact hrow u hu) (EC_cong (f1 _ (by omega)) (f1 _ (by omega)) (f1 _ (by omega)) (f1 _ (by omega)) hE) hS
  refine ⟨s2, ?_, r2, fun u hu => by rw [f2 _ (by omega) (by omega) (by omega), v1]; exact hrow u hu, fun c h1 h2 h3 h4 => by rw [f2 c h1 h2 h3, f1 c h4]⟩
  unfold fx_52
  rw [e9, hs1, e2, gc_v]
/-- redrawFrom -/
theorem g49 (hn : n ≤ 14) (hD : DC σ nd De) (hV : DV n nd De) (hG : GD nd De) (hCV : CV n Cf) (hE : ∀ k, k < nd → (De k).1 = 2 → EC σ n 3 Cf Rf (De k).2.1) (hS : ∀ d, d < n → SR n (Rf d)) (hone : ∀ j k, j < nd → k < nd → (De j).1 = 2 → (De k).1 = 2 → (De j).2.1 = (De k).2.1 → j = k) (hrow : ∀ u, u < 60 → -1 ≤ σ 37 u ∧ σ 37 u < 14) {k0 : Nat} (hk0 : k0 < nd) (h20 : (De k0).1 = 2) (hbef : ∀ u, u < 60 → σ (56 + 10 * (De k0).2.1) u = ow n Rf Cf De k0 u) : ∃ σ', fx_49 (k0 : Int) σ = some (.inl ((ct (fun u => !decide (ow n Rf Cf De nd u = σ 37 u)) 60 : Nat) : Int), σ') ∧ (∀ u, u < 60 → σ' 37 u = ow n Rf Cf De nd u) ∧ (∀ j, k0 ≤ j → j < nd → (De j).1 = 2 → ∀ u, u < 60 → σ' (56 + 10 * (De j).2.1) u = ow n Rf Cf De j u) ∧ ∀ c, c ≠ 37 → c ≠ 38 → c ≠ 39 → c ≠ 40 → (∀ j, k0 ≤ j → j < nd → (De j).1 = 2 → c ≠ 56 + 10 * (De j).2.1) → σ' c = σ c := by
  have hnd := hV.1
  -- what changed
  have k131 : ∀ (σ1 : gb_S), (∀ u, u < 60 → σ1 38 u = σ 37 u) → (∀ u, u < 60 → σ1 37 u = ow n Rf Cf De nd u) → ∀ (m f : Nat), m ≤ 60 → m < f → fx_49_131 f ((ct (fun u => !decide (ow n Rf Cf De nd u = σ 37 u)) (60 - m) : Nat) : Int) ((60 - m : Nat) : Int) σ1 = some (.inl ((ct (fun u => !decide (ow n Rf Cf De nd u = σ 37 u)) 60 : Nat) : Int), σ1) := by
    intro σ1 h38 h37 m
    induction m with
    | zero =>
      intro f _ hf
      obtain ⟨f, rfl⟩ : ∃ q, f = q + 1 := ⟨f - 1, by omega⟩
      rw [fx_49_131, gq_R (by omega) (by omega), if_neg (by omega)]
    | succ m ih =>
      intro f hm hf
      obtain ⟨f, rfl⟩ : ∃ q, f = q + 1 := ⟨f - 1, by omega⟩
      have ihk := ih f (by omega) (by omega)
      generalize hi : 60 - (m + 1) = i
      have hi2 : 60 - m = i + 1 := by omega
      rw [hi2, ct] at ihk
      have hob := ow_b (Rf := Rf) hV hCV (Nat.le_refl nd) i
      have hri := hrow i (by omega)
      rw [fx_49_131, gq_R (by omega) (by omega), if_pos (by omega), gq_ix (by omega) (by omega), Int.toNat_natCast, h37 i (by omega), h38 i (by omega), gq_R (by omega) (by omega), gq_R (by omega) (by omega), show ((i : Nat) : Int) + 1 = ((i + 1 : Nat) : Int) by omega]
      by_cases he : ow n Rf Cf De nd i = σ 37 i
      · rw [if_pos he]
        rw [decide_eq_true he, if_neg (by decide), Nat.add_zero] at ihk
        exact ihk
      · rw [if_neg he]
        rw [decide_eq_false he, if_pos (by decide)] at ihk
        exact ihk
  have key : ∀ (m f : Nat) (σ1 : gb_S), m ≤ nd - k0 → m < f → (∀ u, u < 60 → σ1 38 u = σ 37 u) → (∀ u, u < 60 → σ1 37 u = ow n Rf Cf De (nd - m) u) → (∀ j, k0 ≤ j → j < nd - m → (De j).1 = 2 → ∀ u, u < 60 → σ1 (56 + 10 * (De j).2.1) u = ow n Rf Cf De j u) → (∀ c, c ≠ 37 → c ≠ 38 → c ≠ 39 → c ≠ 40 → (∀ j, k0 ≤ j → j < nd → (De j).1 = 2 → c ≠ 56 + 10 * (De j).2.1) → σ1 c = σ c) → ∃ σ', fx_49_66 f ((nd - m : Nat) : Int) σ1 = some (.inl ((ct (fun u => !decide (ow n Rf Cf De nd u = σ 37 u)) 60 : Nat) : Int), σ') ∧ (∀ u, u < 60 → σ' 37 u = ow n Rf Cf De nd u) ∧ (∀ j, k0 ≤ j → j < nd → (De j).1 = 2 → ∀ u, u < 60 → σ' (56 + 10 * (De j).2.1) u = ow n Rf Cf De j u) ∧ ∀ c, c ≠ 37 → c ≠ 38 → c ≠ 39 → c ≠ 40 → (∀ j, k0 ≤ j → j < nd → (De j).1 = 2 → c ≠ 56 + 10 * (De j).2.1) → σ' c = σ c := by
    intro m
    induction m with
    | zero =>
      intro f σ1 _ hf h38 h37 hbf f1
      obtain ⟨f, rfl⟩ : ∃ q, f = q + 1 := ⟨f - 1, by omega⟩
      have h5 : σ1 30 5 = (nd : Int) := by rw [f1 30 (by omega) (by omega) (by omega) (by omega) (fun _ _ _ _ => by omega)]; exact hD.1
      refine ⟨σ1, ?_, h37, hbf, f1⟩
      rw [fx_49_66, gq_R (by omega) (by omega), gq_R (by omega) (by omega), if_neg (by omega)]
      have := k131 σ1 h38 h37 60 gFU (Nat.le_refl _) (by unfold gFU; omega)
      exact this
    | succ m ih =>
      intro f σ1 hm hf h38 h37 hbf f1
      obtain ⟨f, rfl⟩ : ∃ q, f = q + 1 := ⟨f - 1, by omega⟩
      have f1c : ∀ c, c < 37 → σ1 c = σ c := fun c hc => f1 c (by omega) (by omega) (by omega) (by omega) (fun _ _ _ _ => by omega)
      have hD1 : DC σ1 nd De := DC_cong (by rw [f1c 30 (by omega)]) (fun c h1 h2 => f1c c (by omega)) hD
      have h5 := hD1.1
      generalize hi : nd - (m + 1) = i at h37 hbf ⊢
      have hi2 : nd - m = i + 1 := by omega
      rw [hi2] at ih
      have hin : i < nd := by omega
      have hki : k0 ≤ i := by omega
      have hVi := hV.2 i hin
      have hDi := hD1.2 i hin
      have hob := ow_b (Rf := Rf) hV hCV (k := i) (by omega)
      rw [fx_49_66, gq_R (by omega) (by omega), gq_R (by omega) (by omega), if_pos (by omega), gq_ix (by omega) (by omega), Int.toNat_natCast, hDi.1, show ((i : Nat) : Int) + 1 = ((i + 1 : Nat) : Int) by omega]
      by_cases h2 : (De i).1 = 2
      · have h31 : σ1 31 i = ((De i).2.1 : Int) := by rw [hDi.2.2.2.1, if_neg (by omega)]
        have hfr : ∀ c, c = 47 + 10 * (De i).2.1 ∨ c = 47 + 10 * (De i).2.1 + 2 ∨ c = 47 + 10 * (De i).2.1 + 3 + 1 ∨ c = 47 + 10 * (De i).2.1 + 3 + 2 → σ1 c = σ c := fun c hc => f1 c (by omega) (by omega) (by omega) (by omega) (fun _ _ _ _ => by omega)
        rw [if_pos h2, gq_R (by omega) (by omega), if_neg (by omega), h31, g56 (by omega), gc_v, gq_R (by omega) (by omega), if_neg (by omega), h31, gq_ix (by omega) (by omega), Int.toNat_natCast]
        obtain ⟨s2, e2, r2, l2, f2⟩ := g52 (σ := σ1) (Cf := Cf) (Rf := Rf) (d := (De i).2.1) hn hVi.2.1 (ow n Rf Cf De i) hob h37 (EC_cong (hfr _ (by simp)) (hfr _ (by simp)) (hfr _ (by simp)) (hfr _ (by simp)) (hE i hin h2)) (hS _ hVi.2.1)
        rw [e2, gc_v]
        refine ih f s2 (by omega) (by omega) (fun u hu => by rw [f2 38 (by omega) (by omega) (by omega) (by omega)]; exact h38 u hu) (fun u hu => by
          rw [r2 u hu, ow]
          unfold dst
          rw [if_pos h2]) (fun j h1 hj2 hj3 u hu => ?_) (fun c h1 h3 h4 h5 h6 => by rw [f2 c h4 h5 h1 (h6 i hki hin h2), f1 c h1 h3 h4 h5 h6])
        by_cases hji : j = i
        · subst hji; exact l2 u hu
        · have hne : (De j).2.1 ≠ (De i).2.1 := fun q => hji (hone j i (by omega) hin hj3 h2 q)
          rw [f2 _ (by omega) (by omega) (by omega) (by omega)]
          exact hbf j h1 (by omega) hj3 u hu
      · rw [if_neg h2, gq_R (by omega) (by omega), if_pos rfl]
        obtain ⟨s2, e2, r2, f2⟩ := g51 (a := 37) (Or.inl rfl) hn hD1 hV hin h2 (fun u hu => by rw [h37 u hu]; have := hob u; omega)
        rw [e2, gc_v]
        refine ih f s2 (by omega) (by omega) (fun u hu => by rw [f2 38 (by omega)]; exact h38 u hu) (fun u hu => by
          rw [r2 u hu, h37 u hu, ow, dst_ho hG hin ⟨hVi.1, h2⟩ u]) (fun j h1 hj2 hj3 u hu => ?_) (fun c h1 h3 h4 h5 h6 => by rw [f2 c h1, f1 c h1 h3 h4 h5 h6])
        rw [f2 _ (by omega)]
        refine hbf j h1 ?_ hj3 u hu
        have : j ≠ i := fun q => h2 (by rw [← q]; exact hj3)
        omega
  have hVk := hV.2 k0 hk0
  have h31 : σ 31 k0 = ((De k0).2.1 : Int) := by rw [(hD.2 k0 hk0).2.2.2.1, if_neg (by omega)]
  have h5 := hD.1
  generalize hs1 : gb_cp σ 37 38 = s1
  have f1 : ∀ c, c ≠ 38 → s1 c = σ c := fun c hc => by rw [← hs1, cp_ne _ _ _ hc]
  generalize hs2 : gb_cp s1 (56 + 10 * (De k0).2.1) 37 = s2
  have f2 : ∀ c, c ≠ 37 → s2 c = s1 c := fun c hc => by rw [← hs2, cp_ne _ _ _ hc]
  have := key (nd - k0) gFU s2 (Nat.le_refl _) (by unfold gFU; omega) (fun u hu => by rw [f2 38 (by omega), ← hs1, cp_eq]) (fun u hu => by
    rw [← hs2, cp_eq, f1 _ (by omega), hbef u hu, show nd - (nd - k0) = k0 by omega]) (fun j h1 h2 => by omega) (fun c h1 h2 _ _ _ => by rw [f2 c h1, f1 c h2])
  rw [show nd - (nd - k0) = k0 by omega] at this
  obtain ⟨s3, e3, r3, l3, f3⟩ := this
  refine ⟨s3, ?_, r3, l3, f3⟩
  unfold fx_49
  rw [gq_R (by omega) (by omega), if_neg (by omega), gq_R (by omega) (by omega), if_pos (by omega), gq_ix (by omega) (by omega), Int.toNat_natCast, h31, g56 (by omega), gc_v, gq_R (by omega) (by omega), if_neg (by omega), hs1, f1 31 (by omega), h31, gq_ix (by omega) (by omega), Int.toNat_natCast, show 47 + 10 * (De k0).2.1 + 9 = 56 + 10 * (De k0).2.1 by omega, hs2]
  exact e3
end LK1
