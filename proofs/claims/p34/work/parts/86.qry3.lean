section QC1
variable {c : Nat} {σ : gb_S} {n nb nd : Nat} {P : pT} {ps : Nat → Nat} {De : Nat → dT} {Cf : Nat → List Nat}
def rJ (b : Int) : Prop := -9223372036854775808 ≤ b ∧ b ≤ 9223372036854775807
def rI (b : Int) : Prop := -2147483648 ≤ b ∧ b ≤ 2147483647
theorem dead_no (hi : IV2 c σ n nb nd P ps De Cf) {d : Nat} (hd : d < n) (h : σ 189 d = -1) : fx_117 (d : Int) σ = some (.inr 2, σ) := by
  rw [c117 (by have := hi.1.1; omega), FO_dead hi.2.2.2.1 hd, decide_eq_true h]; rfl
theorem dead_yes (hi : IV2 c σ n nb nd P ps De Cf) {d : Nat} (hd : d < n) (h : ¬ σ 189 d = -1) : fx_117 (d : Int) σ = some (.inl 0, σ) := by
  rw [c117 (by have := hi.1.1; omega), FO_dead hi.2.2.2.1 hd, decide_eq_false h]; rfl
theorem alive_no (hi : IV2 c σ n nb nd P ps De Cf) {d : Nat} (hd : d < n) (h : ¬ σ 189 d = -1) : fx_116 (d : Int) σ = some (.inr 2, σ) := by
  rw [c116 (by have := hi.1.1; omega), FO_dead hi.2.2.2.1 hd, decide_eq_false h]; rfl
theorem alive_yes (hi : IV2 c σ n nb nd P ps De Cf) {d : Nat} (hd : d < n) (h : σ 189 d = -1) : fx_116 (d : Int) σ = some (.inl 0, σ) := by
  rw [c116 (by have := hi.1.1; omega), FO_dead hi.2.2.2.1 hd, decide_eq_true h]; rfl
/-- three ways to go for a question about a person and an estate -/
theorem two_cases {x y : Int} (h1 : -2147483648 ≤ x ∧ x ≤ 2147483647) (h2 : -2147483648 ≤ y ∧ y ≤ 2147483647) (σ : gb_S) (n : Nat) : (¬ (0 ≤ x ∧ x < (n : Int))) ∨ ((0 ≤ x ∧ x < (n : Int)) ∧ ¬ (0 ≤ y ∧ y < (n : Int))) ∨ (∃ p d : Nat, x = (p : Int) ∧ y = (d : Int) ∧ p < n ∧ d < n ∧ σ 189 d = -1) ∨ (∃ p d : Nat, x = (p : Int) ∧ y = (d : Int) ∧ p < n ∧ d < n ∧ ¬ σ 189 d = -1) := by
  by_cases hx : 0 ≤ x ∧ x < (n : Int)
  · by_cases hy : 0 ≤ y ∧ y < (n : Int)
    · by_cases h : σ 189 y.toNat = -1
      · exact Or.inr (Or.inr (Or.inl ⟨x.toNat, y.toNat, by omega, by omega, by omega, by omega, h⟩))
      · exact Or.inr (Or.inr (Or.inr ⟨x.toNat, y.toNat, by omega, by omega, by omega, by omega, h⟩))
    · exact Or.inr (Or.inl ⟨hx, hy⟩)
  · exact Or.inl hx
theorem r174 {x y b t : Int} {s : gb_S} (h : fx_173 x y σ = some (.inl 0, s)) (hs : s = gb_up σ 187 43 t) (hst : ST σ n P) : RQ (fun s => fx_174 x y s) t 0 n P σ ∧ RQ (fun s => fx_175 x y s) t 0 n P σ ∧ RQ (fun s => fx_176 x y s) t 0 n P σ := by
  subst hs
  have e4 : fx_174 x y σ = some (.inl 0, gb_up σ 187 43 t) := by
    unfold fx_174
    rw [h, gc_v, gq_R (by omega) (by omega), if_pos rfl]
  have e5 : fx_175 x y σ = some (.inl 0, gb_up σ 187 43 t) := by
    unfold fx_175
    rw [h, gc_v, gq_R (by omega) (by omega), if_pos rfl]
  have e6 : fx_176 x y σ = some (.inl 0, gb_up σ 187 43 t) := by
    unfold fx_176
    rw [e4, gc_v]
  exact ⟨⟨_, e4, up43_SC t, up43_ST t hst, up_eq _ _ _ _, up_ne _ _ _ _ (by omega)⟩, ⟨_, e5, up43_SC t, up43_ST t hst, up_eq _ _ _ _, up_ne _ _ _ _ (by omega)⟩, ⟨_, e6, up43_SC t, up43_ST t hst, up_eq _ _ _ _, up_ne _ _ _ _ (by omega)⟩⟩
/-- 18: shareAbove -/
theorem qc18 {x y : Int} (h1 : -2147483648 ≤ x ∧ x ≤ 2147483647) (h2 : -2147483648 ≤ y ∧ y ≤ 2147483647) (hi : IV2 c σ n nb nd P ps De Cf) : CM rJ c (fx_211 x y) (fun s => fx_174 x y s) σ ∧ CM rJ c (fx_212 x y) (fun s => fx_175 x y s) σ ∧ CM rJ c (fx_213 x y) (fun s => fx_176 x y s) σ := by
  have hn := hi.1.1
  have h23 := hi.2.2.2.1.1
  rcases two_cases h1 h2 σ n with h | h | ⟨p, d, rfl, rfl, hp, hd, h⟩ | ⟨p, d, rfl, rfl, hp, hd, h⟩
  · have hr := r174 (n := n) (P := P) (b := 0) (r173n h1 h2 hi (Or.inl h)) rfl hi.2.1
    refine ⟨CM_thr (k := 1) (b := 0) hi ?_ (by omega) hr.1 (by unfold rJ; omega), CM_thr (k := 1) (b := 0) hi ?_ (by omega) hr.2.1 (by unfold rJ; omega), CM_thr (k := 1) (b := 0) hi ?_ (by omega) hr.2.2 (by unfold rJ; omega)⟩
    · unfold fx_211 fx_97; rw [c110n h1 hn h23 h, gc_e, gch_e, if_pos rfl]
    · unfold fx_212 fx_98; rw [c110n h1 hn h23 h, gc_e, gch_e, if_pos rfl]
    · unfold fx_213 fx_99; rw [c110n h1 hn h23 h, gc_e, gch_e, if_pos rfl]
  · have hr := r174 (n := n) (P := P) (b := 0) (r173n h1 h2 hi (Or.inr h.2)) rfl hi.2.1
    have e1 : fx_110 x σ = some (.inl 0, σ) := by rw [c110 h1 hn h23, if_pos h.1]
    refine ⟨CM_thr (k := 1) (b := 0) hi ?_ (by omega) hr.1 (by unfold rJ; omega), CM_thr (k := 1) (b := 0) hi ?_ (by omega) hr.2.1 (by unfold rJ; omega), CM_thr (k := 1) (b := 0) hi ?_ (by omega) hr.2.2 (by unfold rJ; omega)⟩
    · unfold fx_211 fx_97; rw [e1, gc_v, c110n h2 hn h23 h.2, gc_e, gch_e, if_pos rfl]
    · unfold fx_212 fx_98; rw [e1, gc_v, c110n h2 hn h23 h.2, gc_e, gch_e, if_pos rfl]
    · unfold fx_213 fx_99; rw [e1, gc_v, c110n h2 hn h23 h.2, gc_e, gch_e, if_pos rfl]
  · have hr := r174 (n := n) (P := P) (b := 0) (r173a hp hd hi h) rfl hi.2.1
    refine ⟨CM_thr (k := 2) (b := 0) hi ?_ (by omega) hr.1 (by unfold rJ; omega), CM_thr (k := 2) (b := 0) hi ?_ (by omega) hr.2.1 (by unfold rJ; omega), CM_thr (k := 2) (b := 0) hi ?_ (by omega) hr.2.2 (by unfold rJ; omega)⟩
    · unfold fx_211 fx_97; rw [c110y hp hn h23, gc_v, c110y hd hn h23, gc_v, dead_no hi hd h, gc_e, gch_e, if_neg (by decide), if_pos rfl]
    · unfold fx_212 fx_98; rw [c110y hp hn h23, gc_v, c110y hd hn h23, gc_v, dead_no hi hd h, gc_e, gch_e, if_neg (by decide), if_pos rfl]
    · unfold fx_213 fx_99; rw [c110y hp hn h23, gc_v, c110y hd hn h23, gc_v, dead_no hi hd h, gc_e, gch_e, if_neg (by decide), if_pos rfl]
  · have hS := Rd_SR hi.1 hd
    have hb := R_rng hS p
    obtain ⟨r, s, e, sk, kd, cm1, _⟩ := c119 hi hd h
    obtain ⟨s3, e3, cm3, f3⟩ := g3 (r := 41) (TT_KH hi.1 hd) (KP_KC hi.1 hi.2.2.2.2.2.1 d) (IV_FK hi hd h) (Or.inl rfl) ⟨d, by omega, rfl⟩ (by omega)
    have sk3 : SK σ s3 := fun x hx => f3 x (by unfold scr at hx; omega) (by unfold scr at hx; omega) (by unfold scr at hx; omega) (by unfold scr at hx; omega) (by unfold scr at hx; omega)
    have href : ∀ σ', SC σ σ' → IV2 c σ' n nb nd P ps De Cf → ∃ s, fx_173 (p : Int) (d : Int) σ' = some (.inl 1, s) ∧ cs s n (Rd σ n P d) ∧ SC σ' s ∧ ST s n P ∧ s 187 43 = 0 ∧ s 224 = σ' 224 := by
      intro σ' hsc hi'
      have hx' : σ' 189 d ≠ -1 := by rw [sa hsc (c := 189) (by unfold scr; omega) (by omega)]; exact h
      obtain ⟨s, e, cc, q⟩ := r173y hp hd hi' hx'
      rw [SC_Rd hsc] at cc
      exact ⟨s, e, cc, q⟩
    refine ⟨CM_val (s := s) (v := (Rd σ n P d p).num) hi sk ?_ (fun σ' hsc hi' => ?_) (by unfold rJ; omega), CM_val (s := s) (v := ((Rd σ n P d p).den : Int)) hi sk ?_ (fun σ' hsc hi' => ?_) (by unfold rJ; omega), CM_val (s := s3) (v := (Rd σ n P d p).num) hi sk3 ?_ (fun σ' hsc hi' => ?_) (by unfold rJ; omega)⟩
    · unfold fx_211 fx_97
      rw [c110y hp hn h23, gc_v, c110y hd hn h23, gc_v, dead_yes hi hd h, gc_v, e, gc_v, Int.toNat_natCast, gq_t kd, g71 (by omega), gc_v, (cm1 p (by omega)).1, gch_v]
    · obtain ⟨s2, e2, cc, q1, q2, q3, q4⟩ := href σ' hsc hi'
      refine ⟨s2, ?_, q1, q2, q3, q4⟩
      show fx_174 _ _ _ = _
      unfold fx_174
      rw [e2, gc_v, gq_R (by omega) (by omega), if_neg (by decide), gq_ix (by omega) (by omega), Int.toNat_natCast, (cc p hp).1]
    · unfold fx_212 fx_98
      rw [c110y hp hn h23, gc_v, c110y hd hn h23, gc_v, dead_yes hi hd h, gc_v, e, gc_v, Int.toNat_natCast, gq_t kd, g72 (by omega), gc_v, (cm1 p (by omega)).2, gch_v]
    · obtain ⟨s2, e2, cc, q1, q2, q3, q4⟩ := href σ' hsc hi'
      refine ⟨s2, ?_, q1, q2, q3, q4⟩
      show fx_175 _ _ _ = _
      unfold fx_175
      rw [e2, gc_v, gq_R (by omega) (by omega), if_neg (by decide), gq_ix (by omega) (by omega), Int.toNat_natCast, (cc p hp).2]
    · unfold fx_213 fx_99
      rw [c110y hp hn h23, gc_v, c110y hd hn h23, gc_v, dead_yes hi hd h, gc_v, gq_ix (by omega) (by omega), Int.toNat_natCast, e3, gc_v, g71 (by omega), gc_v, (cm3 p (by omega)).1, gch_v]
      rfl
    · obtain ⟨s2, e2, cc, q1, q2, q3, q4⟩ := href σ' hsc hi'
      refine ⟨s2, ?_, q1, q2, q3, q4⟩
      show fx_176 _ _ _ = _
      unfold fx_176 fx_174
      rw [e2, gc_v, gq_R (by omega) (by omega), if_neg (by decide), gq_ix (by omega) (by omega), Int.toNat_natCast, (cc p hp).1, gc_v]
/-- how many heirs, in the class -/
theorem c75 {a : Nat} {R : Nat → Rat} (hcm : cm σ a R) (hS : SR n R) (hn : n ≤ 14) : fx_75 a σ = some (.inl ((ct (fun p => decide (0 < R p)) n : Nat) : Int), σ) := by
  have h14 : ct (fun p => decide (0 < R p)) 14 = ct (fun p => decide (0 < R p)) n := by
    have : ∀ m, n ≤ m → ct (fun p => decide (0 < R p)) m = ct (fun p => decide (0 < R p)) n := by
      intro m
      induction m with
      | zero => intro h; rw [show n = 0 by omega]
      | succ m ih =>
        intro h
        by_cases hq : n = m + 1
        · rw [hq]
        · have hz : R m = 0 := hS.2.1 m (by omega)
          rw [ct, ih (by omega), hz, if_neg (by decide), Nat.add_zero]
    exact this 14 hn
  have key : ∀ (m f : Nat), m ≤ 14 → m < f → fx_75_4 f a ((ct (fun p => decide (0 < R p)) (14 - m) : Nat) : Int) ((14 - m : Nat) : Int) σ = some (.inl ((ct (fun p => decide (0 < R p)) n : Nat) : Int), σ) := by
    intro m
    induction m with
    | zero =>
      intro f _ hf
      obtain ⟨f, rfl⟩ : ∃ q, f = q + 1 := ⟨f - 1, by omega⟩
      rw [fx_75_4, gq_R (by omega) (by omega), if_neg (by omega), Nat.sub_zero, h14]
    | succ m ih =>
      intro f hm hf
      obtain ⟨f, rfl⟩ : ∃ q, f = q + 1 := ⟨f - 1, by omega⟩
      have ihk := ih f (by omega) (by omega)
      generalize hi : 14 - (m + 1) = i
      have hi2 : 14 - m = i + 1 := by omega
      rw [hi2, ct] at ihk
      have hb := hS.1 i
      have hnd := num_le_den hb.2.1
      have hn0 : 0 ≤ (R i).num := Rat.num_nonneg.mpr hb.1
      have hdd := hb.2.2
      rw [fx_75_4, gq_R (by omega) (by omega), if_pos (by omega), gq_ix (by omega) (by omega), Int.toNat_natCast, (hcm i (by omega)).1, gq_L (by omega) (by omega), show ((i : Nat) : Int) + 1 = ((i + 1 : Nat) : Int) by omega]
      have h4 := num_pos hb.1
      by_cases hp : 0 < R i
      · have : ¬ (R i).num = 0 := fun q => h4.mp q hp
        rw [if_pos (by omega)]
        rw [decide_eq_true hp, if_pos rfl] at ihk
        exact ihk
      · have := h4.mpr hp
        rw [if_neg (by omega)]
        rw [decide_eq_false hp, if_neg (by decide)] at ihk
        exact ihk
  have := key 14 gFU (Nat.le_refl _) (by unfold gFU; omega)
  exact this
/-- 21: heirs -/
theorem qc21 {x : Int} (h1 : -2147483648 ≤ x ∧ x ≤ 2147483647) (hi : IV2 c σ n nb nd P ps De Cf) : CM rI c (fx_214 x) (fx_177 x) σ := by
  have hn := hi.1.1
  have h23 := hi.2.2.2.1.1
  have hrn : ∀ t : Int, fx_173 x x σ = some (.inl 0, gb_up σ 187 43 t) → RQ (fx_177 x) t 0 n P σ := by
    intro t h
    refine ⟨_, ?_, up43_SC t, up43_ST t hi.2.1, up_eq _ _ _ _, up_ne _ _ _ _ (by omega)⟩
    unfold fx_177
    rw [h, gc_v, gq_R (by omega) (by omega), if_pos rfl]
  by_cases h : 0 ≤ x ∧ x < (n : Int)
  · obtain ⟨d, rfl⟩ : ∃ d : Nat, x = (d : Int) := ⟨x.toNat, by omega⟩
    have hd : d < n := by omega
    by_cases hx : σ 189 d = -1
    · refine CM_thr (k := 2) (b := 0) hi ?_ (by omega) (hrn 2 (r173a hd hd hi hx)) (by unfold rI; omega)
      unfold fx_214 fx_100
      rw [c110y hd hn h23, gc_v, dead_no hi hd hx, gc_e, gch_e, if_neg (by decide), if_pos rfl]
    · have hS := Rd_SR hi.1 hd
      have hle := ct_le (fun p => decide (0 < Rd σ n P d p)) n
      obtain ⟨r, s, e, sk, kd, cm1, _⟩ := c119 hi hd hx
      refine CM_val (s := s) (v := ((ct (fun p => decide (0 < Rd σ n P d p)) n : Nat) : Int)) hi sk ?_ (fun σ' hsc hi' => ?_) (by unfold rI; omega)
      · unfold fx_214 fx_100
        rw [c110y hd hn h23, gc_v, dead_yes hi hd hx, gc_v, e, gc_v, Int.toNat_natCast, gq_t kd, c75 cm1 hS hn, gc_v, gch_v, gq_R (by omega) (by omega)]
      · have hx' : σ' 189 d ≠ -1 := by rw [sa hsc (c := 189) (by unfold scr; omega) (by omega)]; exact hx
        obtain ⟨s2, e2, cc, q1, q2, q3, q4⟩ := r173y hd hd hi' hx'
        have hi2 := SC_IV q1 q2 hi'
        obtain ⟨s3, e3, cc3, j3, z3, k3, f3⟩ := g169 hi2.1 hi2.2.1 hd
        rw [SC_Rd q1, SC_Rd hsc] at e3
        refine ⟨s3, ?_, SC_trans q1 ⟨fun c h1 h2 => f3 c h2 (by unfold scr at h1; omega), fun i h1 _ => j3 i h1⟩, Or.inl ⟨z3, k3⟩, by rw [j3 43 (by omega)]; exact q3, by rw [f3 224 (by omega) (by omega)]; exact q4⟩
        unfold fx_177
        rw [e2, gc_v, gq_R (by omega) (by omega), if_neg (by decide), e3, gc_v]
  · refine CM_thr (k := 1) (b := 0) hi ?_ (by omega) (hrn 1 (r173n h1 h1 hi (Or.inl h))) (by unfold rI; omega)
    unfold fx_214 fx_100
    rw [c110n h1 hn h23 h, gc_e, gch_e, if_pos rfl]
/-- all land drawn, under the invariant -/
theorem r184 (hi : IV2 c σ n nb nd P ps De Cf) : ∃ s, fx_184 σ = some (.inl 0, s) ∧ (∀ u, u < 60 → s 222 u = σ 37 u) ∧ SC σ s ∧ ST s n P ∧ s 187 43 = σ 187 43 ∧ s 224 = σ 224 := by
  obtain ⟨l1, l2, l3, l4, l5, l6, l7, l8, l9, l10⟩ := hi.2.2.2.2.2.2.2
  have hn := hi.1.1
  obtain ⟨s, e, r, d1, d2, d3⟩ := g184 (De := De) (Cf := Cf) hi.1 hi.2.1 l2 l3 (fun d hd => (hi.2.2.2.2.2.2.1 d (by omega)).2.2.2.1)
  exact ⟨s, e, fun u hu => by rw [r u hu, l9 u hu], ⟨fun c h1 h2 => d3 c h2 (by unfold scr at h1; omega) (by unfold scr at h1; omega), fun j h1 _ => d1 j h1⟩, d2, d1 43 (by omega), d3 224 (by omega) (by omega) (by omega)⟩
theorem own_b (hi : IV2 c σ n nb nd P ps De Cf) {u : Nat} (hu : u < 60) : -1 ≤ σ 37 u ∧ σ 37 u < (n : Int) := by
  obtain ⟨l1, l2, l3, l4, l5, l6, l7, l8, l9, l10⟩ := hi.2.2.2.2.2.2.2
  have hn := hi.1.1
  rw [l9 u hu]
  exact ow_b l3 (fun d hd => by have := (hi.2.2.2.2.2.2.1 d (by omega)).2.2.2.1; exact ⟨this.2.2.1, this.2.2.2.1⟩) (Nat.le_refl _) u
theorem c112 {x : Int} (h1 : -2147483648 ≤ x ∧ x ≤ 2147483647) : fx_112 x σ = some (if 0 ≤ x ∧ x < 60 then .inl 0 else .inr 0, σ) := by
  unfold fx_112
  rw [gq_R h1.1 h1.2]
  by_cases a1 : x < 0
  · rw [if_pos a1, if_neg (by omega)]
  · rw [if_neg a1]
    by_cases a2 : x < 60
    · rw [if_pos a2, if_pos (by omega)]
    · rw [if_neg a2, if_neg (by omega)]
theorem c40 {u : Nat} (hu : u < 60) : fx_40 (u : Int) σ = some (.inl (σ 37 u), σ) := by
  unfold fx_40
  rw [gq_R (by omega) (by omega), if_neg (by omega), if_pos (by omega), gq_ix (by omega) (by omega), Int.toNat_natCast]
/-- the reference's owner -/
theorem r188 {u : Nat} (hu : u < 60) (hi : IV2 c σ n nb nd P ps De Cf) : RQ (fx_188 (u : Int)) 0 (σ 37 u) n P σ := by
  obtain ⟨s, e, r, sc, st, t, o⟩ := r184 (up43_IV 0 hi)
  refine ⟨s, ?_, SC_trans (up43_SC 0) sc, st, by rw [t, up_eq], by rw [o, up_ne _ _ _ _ (by omega)]⟩
  unfold fx_188
  rw [g134 (by omega), gc_v, g127, gc_v, decide_eq_true (show 0 ≤ (u : Int) ∧ (u : Int) < 60 by omega), if_pos rfl, if_pos rfl, gq_R (by omega) (by omega), if_neg (by decide), e, gc_v, gq_ix (by omega) (by omega), Int.toNat_natCast, r u hu, up_ne _ _ _ _ (by omega)]
theorem r188n {x : Int} (h1 : -2147483648 ≤ x ∧ x ≤ 2147483647) (h : ¬ (0 ≤ x ∧ x < 60)) (hst : ST σ n P) : RQ (fx_188 x) 1 0 n P σ := by
  refine ⟨_, ?_, up43_SC 1, up43_ST 1 hst, up_eq _ _ _ _, up_ne _ _ _ _ (by omega)⟩
  unfold fx_188
  rw [g134 h1, gc_v, g127, gc_v, decide_eq_false h]
  exact (gq_R (by decide) (by decide)).trans (if_pos rfl)
/-- 26: owner -/
theorem qc26 {x : Int} (h1 : -2147483648 ≤ x ∧ x ≤ 2147483647) (hi : IV2 c σ n nb nd P ps De Cf) : CM rI c (fx_219 x) (fx_188 x) σ := by
  have hn := hi.1.1
  by_cases h : 0 ≤ x ∧ x < 60
  · obtain ⟨u, rfl⟩ : ∃ u : Nat, x = (u : Int) := ⟨x.toNat, by omega⟩
    have hb := own_b hi (u := u) (by omega)
    refine CM_val (s := σ) (v := σ 37 u) hi (SK_refl _) ?_ (fun σ' hsc hi' => ?_) (by unfold rI; omega)
    · unfold fx_219 fx_105
      rw [c112 h1, if_pos h, gc_v, c40 (by omega), gc_v, gch_v, gq_R (by omega) (by omega)]
    · have := r188 (u := u) (by omega) hi'
      rw [sa hsc (c := 37) (by unfold scr; omega) (by omega)] at this
      exact this
  · refine CM_thr (k := 1) (b := 0) hi ?_ (by omega) (r188n h1 h hi.2.1) (by unfold rI; omega)
    unfold fx_219 fx_105
    rw [c112 h1, if_neg h, gc_e, gch_e, if_pos rfl]
/-- 28: area -/
theorem qc28 {x : Int} (h1 : -2147483648 ≤ x ∧ x ≤ 2147483647) (hi : IV2 c σ n nb nd P ps De Cf) : CM rI c (fx_221 x) (fx_190 x) σ := by
  have hn := hi.1.1
  by_cases h : 0 ≤ x ∧ x < (n : Int)
  · obtain ⟨p, rfl⟩ : ∃ p : Nat, x = (p : Int) := ⟨x.toNat, by omega⟩
    have hp : p < n := by omega
    have hle := ct_le (fun u => decide (σ 37 u = (p : Int))) 60
    refine CM_val (s := σ) (v := ((ct (fun u => decide (σ 37 u = (p : Int))) 60 : Nat) : Int)) hi (SK_refl _) ?_ (fun σ' hsc hi' => ?_) (by unfold rI; omega)
    · have := g57 (σ := σ) (a := 37) rfl (fun u hu => by have := own_b hi hu; omega) (x := (p : Int)) (by omega) (b := 0) (t := 60) (by omega) (Nat.le_refl _)
      rw [ct_congr (b := fun u => decide (0 ≤ u) && decide (σ 37 u = (p : Int))) (c := fun u => decide (σ 37 u = (p : Int))) (fun u _ => by rw [decide_eq_true (Nat.zero_le _), Bool.true_and])] at this
      unfold fx_221 fx_107 fx_42
      rw [c110y hp hn hi.2.2.2.1.1, gc_v]
      rw [show (0 : Int) = ((0 : Nat) : Int) from rfl, show (60 : Int) = ((60 : Nat) : Int) from rfl, this, gc_v, gc_v, gch_v, gq_R (by omega) (by omega)]
    · obtain ⟨s, e, r, sc, st, t, o⟩ := r184 (up43_IV 0 hi')
      refine rq_yes hp hi' ⟨s, ?_, SC_trans (up43_SC 0) sc, st, by rw [t, up_eq], by rw [o, up_ne _ _ _ _ (by omega)]⟩
      have hr : ∀ u, u < 60 → s 222 u = σ 37 u := fun u hu => by rw [r u hu, up_ne _ _ _ _ (by omega), sa hsc (c := 37) (by unfold scr; omega) (by omega)]
      have h182 := g182 (σ := s) (fun u hu => by rw [hr u hu]; have := own_b hi hu; omega) (x := (p : Int)) (by omega)
      rw [ct_congr (b := fun u => decide (s 222 u = (p : Int))) (c := fun u => decide (σ 37 u = (p : Int))) (fun u hu => by rw [hr u hu])] at h182
      rw [gq_R (by omega) (by omega), if_neg (by decide), e, gc_v, h182, gc_v]
  · refine CM_thr (k := 1) (b := 0) hi ?_ (by omega) ?_ (by unfold rI; omega)
    · unfold fx_221 fx_107
      rw [c110n h1 hn hi.2.2.2.1.1 h, gc_e, gch_e, if_pos rfl]
    · exact rq_no h1 hi h (fun s => by rw [gq_R (by omega) (by omega), if_pos rfl])
/-- 27: ownerAnew -/
theorem qc27 {x : Int} (h1 : -2147483648 ≤ x ∧ x ≤ 2147483647) (hi : IV2 c σ n nb nd P ps De Cf) : CM rI c (fx_220 x) (fx_189 x) σ := by
  have hn := hi.1.1
  obtain ⟨l1, l2, l3, l4, l5, l6, l7, l8, l9, l10⟩ := hi.2.2.2.2.2.2.2
  have hCV : CV n Cf := fun d hd => by have := (hi.2.2.2.2.2.2.1 d (by omega)).2.2.2.1; exact ⟨this.2.2.1, this.2.2.2.1⟩
  by_cases h : 0 ≤ x ∧ x < 60
  · obtain ⟨u, rfl⟩ : ∃ u : Nat, x = (u : Int) := ⟨x.toNat, by omega⟩
    have hb := own_b hi (u := u) (by omega)
    -- shares found anew, from persons up
    have key : ∀ (m f : Nat) (s : gb_S), m ≤ 14 → m < f → SK σ s → (∀ d, d < 14 - m → σ 198 d = 1 → cm s (47 + 10 * d + 6) (Rd σ n P d)) → ∃ s', fx_106_7 f (u : Int) ((14 - m : Nat) : Int) s = some (.inl (σ 37 u), s') ∧ SK σ s' := by
      intro m
      induction m with
      | zero =>
        intro f s _ hf sk hcm
        obtain ⟨f, rfl⟩ : ∃ q, f = q + 1 := ⟨f - 1, by omega⟩
        have hi2 := SK_IV sk hi
        obtain ⟨k1, k2, k3, k4, k5, k6, k7, k8, k9, k10⟩ := hi2.2.2.2.2.2.2.2
        obtain ⟨s2, e2, f2⟩ := g50 (Rf := Rd σ n P) hn k1 k3 k4 hCV (fun k hk h2 => by
          have hcl := l5 k hk h2
          have ha := (l3.2 k hk).2.1
          have hE := hi2.2.2.2.2.2.2.1 (De k).2.1 (by omega)
          exact ⟨hE.1, hE.2.2.1, hcm _ (by omega) hcl.1⟩) (fun d hd => Rd_SR hi.1 hd) (x := u) (by omega)
        refine ⟨s2, ?_, fun c hc => by rw [f2 c (by unfold scr at hc; omega) (by unfold scr at hc; omega) (by unfold scr at hc; omega), sk c hc]⟩
        rw [fx_106_7, gq_R (by omega) (by omega), if_neg (by omega), e2, gc_v, ← l9 u (by omega)]
      | succ m ih =>
        intro f s hm hf sk hcm
        obtain ⟨f, rfl⟩ : ∃ q, f = q + 1 := ⟨f - 1, by omega⟩
        generalize hj : 14 - (m + 1) = d at hcm ⊢
        have hj2 : 14 - m = d + 1 := by omega
        rw [hj2] at ih
        have hi2 := SK_IV sk hi
        obtain ⟨e1, e2, e3, e4, e5, e6, e7, e8, e9, e10⟩ := hi.2.2.2.2.2.2.1 d (by omega)
        have h4 : s (47 + 10 * d) 4 = σ 198 d := by rw [sk _ (Or.inl (by unfold scr; omega)), e5]
        rw [fx_106_7, gq_R (by omega) (by omega), if_pos (by omega), gq_ix (by omega) (by omega), Int.toNat_natCast, h4, show ((d : Nat) : Int) + 1 = ((d + 1 : Nat) : Int) by omega]
        by_cases h0 : σ 198 d = 0
        · rw [gq_R (by omega) (by omega), if_pos h0]
          exact ih f s (by omega) (by omega) sk (fun d2 h1 h2 => by
            by_cases hq : d2 = d
            · subst hq; omega
            · exact hcm d2 (by omega) h2)
        · have h11 : σ 198 d = 1 := by rcases e6 with h | h; exact absurd h h0; exact h
          have hdn : d < n := Nat.lt_of_not_le (fun hle => h0 (e9 hle).1)
          have hx := (e10 () h11).1
          rw [gq_R (by omega) (by omega), if_neg h0]
          have hx2 : s 189 d ≠ -1 := by rw [sk 189 (Or.inl (by unfold scr; omega))]; exact hx
          obtain ⟨s3, e3', cm3, f3⟩ := g3 (r := 47 + 10 * d + 6) (TT_KH hi2.1 hdn) (KP_KC hi2.1 hi2.2.2.2.2.2.1 d) (IV_FK hi2 hdn hx2) (Or.inl rfl) ⟨d, by omega, rfl⟩ (by omega)
          have hRd : Rd s n P d = Rd σ n P d := congrFun (SC_Rd (SK_SC sk)) d
          have cm3' : cm s3 (47 + 10 * d + 6) (Rd σ n P d) := by rw [← hRd]; exact cm3
          rw [e3', gc_v]
          exact ih f s3 (by omega) (by omega) (fun c hc => by rw [f3 c (by unfold scr at hc; omega) (by unfold scr at hc; omega) (by unfold scr at hc; omega) (by unfold scr at hc; omega) (by unfold scr at hc; omega), sk c hc]) (fun d2 h1 h2 => by
            by_cases hq : d2 = d
            · subst hq; exact cm3'
            · have := hcm d2 (by omega) h2
              exact cm_cong (f3 _ (by omega) (by omega) (by omega) (by omega) (by omega)) (f3 _ (by omega) (by omega) (by omega) (by omega) (by omega)) this)
    obtain ⟨s, e, sk⟩ := key 14 gFU σ (Nat.le_refl _) (by unfold gFU; omega) (SK_refl _) (fun d hd => by omega)
    refine CM_val (s := s) (v := σ 37 u) hi sk ?_ (fun σ' hsc hi' => ?_) (by unfold rI; omega)
    · unfold fx_220 fx_106
      rw [c112 h1, if_pos h, gc_v, show (0 : Int) = ((14 - 14 : Nat) : Int) from rfl, e, gch_v, gq_R (by omega) (by omega)]
    · obtain ⟨s2, e2, q⟩ := r188 (u := u) (by omega) hi'
      rw [sa hsc (c := 37) (by unfold scr; omega) (by omega)] at e2
      refine ⟨s2, ?_, q⟩
      unfold fx_189
      rw [e2, gc_v]
  · refine CM_thr (k := 1) (b := 0) hi ?_ (by omega) ?_ (by unfold rI; omega)
    · unfold fx_220 fx_106
      rw [c112 h1, if_neg h, gc_e, gch_e, if_pos rfl]
    · obtain ⟨s2, e2, q⟩ := r188n (n := n) (P := P) (σ := σ) h1 h hi.2.1
      refine ⟨s2, ?_, q⟩
      unfold fx_189
      rw [e2, gc_v]
end QC1
