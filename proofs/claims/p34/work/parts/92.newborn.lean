section NBK
theorem su_swap (g : Nat → Nat → Rat) (a b : Nat) : su (fun i => su (fun j => g i j) a) b = su (fun j => su (fun i => g i j) b) a := by
  induction b with
  | zero =>
    rw [su]
    exact (su_zero (fun i _ => rfl)).symm
  | succ b ih =>
    rw [su, ih, ← su_add]
    rfl
theorem su_perm {f : Nat → Rat} {m : Nat} {r ps : Nat → Nat} (h1 : ∀ i, i < m → r i < m ∧ ps (r i) = i) (h2 : ∀ p, p < m → ps p < m ∧ r (ps p) = p) : su (fun j => f (r j)) m = su f m := by
  have e1 : su f m = su (fun p => su (fun j => if j = ps p then f p else 0) m) m := su_congr (fun p hp => (su_one (h2 p hp).1).symm)
  rw [e1, su_swap]
  refine su_congr (fun j hj => ?_)
  have e2 : su (fun i => if j = ps i then f i else 0) m = su (fun i => if i = r j then f (r j) else 0) m := su_congr (fun i hi => by
    by_cases h : j = ps i
    · have : i = r j := by rw [h]; exact ((h2 i hi).2).symm
      rw [if_pos h, if_pos this, this]
    · have : ¬ i = r j := fun q => h (by rw [q]; exact ((h1 j hj).2).symm)
      rw [if_neg h, if_neg this])
  rw [e2, su_one (h1 j hj).1]
theorem ct_last {b : Nat → Bool} {m : Nat} (h : b m = false) : ct b (m + 1) = ct b m := by
  rw [ct, h, if_neg (by decide), Nat.add_zero]
/-- somebody without kin comes to the people -/
def NBH (T T' : kT) : Prop := kn T' = kn T + 1 ∧ kx T' = kx T ∧ kp T' = kp T ∧ (∀ p, p < kn T → ka T' p = ka T p) ∧ (∀ p, p < kn T → kc T' p = kc T p)
variable {T T' : kT} {ps ps' : Nat → Nat}
theorem nb_kp (H : KH T ps) {q k : Nat} (h : kn T ≤ q ∨ kn T ≤ k) : kp T q k = false := by
  rw [← Bool.not_eq_true]
  intro hh
  have := H.2.2.2.2.1 q k hh
  omega
theorem nb_lvf (H : KH T ps) (N : NBH T T') : ∀ k p, p < kn T → lvf T' k p = lvf T k p := by
  obtain ⟨n1, n2, n3, n4, n5⟩ := N
  intro k
  induction k with
  | zero => intro p _; rfl
  | succ k ih =>
    intro p hp
    rw [lvf, lvf, n4 p hp, n5 p hp, n3, n1, ct_last (by rw [nb_kp H (Or.inr (Nat.le_refl _))]; rfl), ct_congr (b := fun c => kp T p c && lvf T' k c) (c := fun c => kp T p c && lvf T k c) (fun c hc => by rw [ih c hc])]
theorem nb_lv (H : KH T ps) (N : NBH T T') {p : Nat} (hp : p < kn T) : lv T' p = lv T p := nb_lvf H N 15 p hp
theorem nb_hd (H : KH T ps) (N : NBH T T') {p : Nat} (hp : p < kn T) : hd T' p = hd T p := by
  have hx := H.2.1
  have l := fun {p : Nat} (hp : p < kn T) => nb_lv H N hp
  obtain ⟨n1, n2, n3, n4, n5⟩ := N
  unfold hd
  rw [n1, n2, n3, l hp, l hx, ct_last (by rw [nb_kp H (Or.inl (Nat.le_refl _))]; rfl), ct_last (by rw [nb_kp H (Or.inl (Nat.le_refl _))]; rfl), ct_congr (b := fun g => kp T g (kx T) && lv T' g) (c := fun g => kp T g (kx T) && lv T g) (fun g hg => by rw [l hg])]
theorem nb_hdn (H : KH T ps) (N : NBH T T') : hd T' (kn T) = false := by
  have hx := H.2.1
  obtain ⟨n1, n2, n3, n4, n5⟩ := N
  unfold hd
  rw [n1, n2, n3, nb_kp H (Or.inl (Nat.le_refl _))]
  split
  · exact beq_eq_false_iff_ne.mpr (by omega)
  · split
    · rfl
    · rw [ct_zero (b := fun g => kp T g (kx T) && kp T (kn T) g) (fun g _ => by rw [nb_kp H (q := kn T) (k := g) (Or.inl (Nat.le_refl _)), Bool.and_false])]
      rfl
theorem nb_hc (H : KH T ps) (N : NBH T T') : hc T' = hc T := by
  unfold hc
  rw [N.1, ct_last (nb_hdn H N)]
  exact ct_congr (fun p hp => nb_hd H N hp)
theorem nb_cc (H : KH T ps) (N : NBH T T') (q : Nat) : cc T' q = cc T q := by
  unfold cc
  rw [N.1, N.2.2.1, ct_last (by rw [nb_kp H (Or.inr (Nat.le_refl _))]; rfl)]
  exact ct_congr (fun p hp => by rw [nb_lv H N hp])
theorem nb_hdv (H : KH T ps) (N : NBH T T') {p : Nat} (hp : p < kn T) : hdv T' p = hdv T p := by
  unfold hdv
  rw [nb_hd H N hp, nb_hc H N]
theorem nb_Kf (H : KH T ps) (H' : KH T' ps') (N : NBH T T') : ∀ k p, p < kn T → Kf T' k p = Kf T k p := by
  have h3 := N.2.2.1
  have h1 := N.1
  have h4 := N.2.2.2.1
  intro k
  induction k with
  | zero => intro p _; rfl
  | succ k ih =>
    intro p hp
    rw [Kf, Kf, nb_hdv H N hp]
    congr 1
    rw [su_perm (f := fun q => if (kp T' q p && (!ka T' q && lv T' p)) = true then Kf T' k q / (cc T' q : Rat) else 0) (r := kr T') (ps := ps') (fun i hi => H'.2.2.1 i hi) (fun p hp => H'.2.2.2.1 p hp), su_perm (f := fun q => if (kp T q p && (!ka T q && lv T p)) = true then Kf T k q / (cc T q : Rat) else 0) (r := kr T) (ps := ps) (fun i hi => H.2.2.1 i hi) (fun p hp => H.2.2.2.1 p hp), h1, su, h3, nb_kp H (q := kn T) (k := p) (Or.inl (Nat.le_refl _)), Bool.false_and, if_neg (by decide), Rat.add_zero]
    refine su_congr (fun q hq => ?_)
    rw [h4 q hq, nb_lv H N hp, ih q hq, nb_cc H N q]
theorem nb_KKn (H : KH T ps) (N : NBH T T') : KK T' (kn T) = 0 := by
  have h3 := N.2.2.1
  unfold KK
  rw [Kf, su_zero (fun j _ => by rw [h3, nb_kp H (Or.inr (Nat.le_refl _)), Bool.false_and, if_neg (by decide)])]
  unfold hdv
  rw [nb_hdn H N, if_neg (by decide), Rat.add_zero]
/-- no share is another -/
theorem nb_Rs {w w' : Nat → Int} (H : KH T ps) (H' : KH T' ps') (N : NBH T T') (hw : ∀ p, p < kn T → w' p = w p) (hwn : w' (kn T) = 0) : (∀ p, p < kn T → Rs T' w' p = Rs T w p) ∧ Rs T' w' (kn T) = 0 := by
  have hx := H.2.1
  have hW : Ws T' w' = Ws T w := by
    unfold Ws
    rw [N.1, si, hwn, ite_self, Int.add_zero]
    exact si_congr (fun p hp => by rw [N.2.2.2.1 p hp, hw p hp])
  have hl : lv T' (kx T') = lv T (kx T) := by rw [N.2.1]; exact nb_lv H N hx
  have hp : pt T' w' = pt T w := by unfold pt; rw [hW, hl]
  have hh : hk T' w' = hk T w := by unfold hk; rw [hW, hl]
  refine ⟨fun p hp2 => ?_, ?_⟩
  · unfold Rs Rw Rk KK
    rw [hW, hp, hh, N.2.2.2.1 p hp2, hw p hp2, nb_Kf H H' N 15 p hp2]
  · unfold Rs Rw Rk
    rw [hwn, nb_KKn H N, Rat.intCast_zero, Rat.div_def, Rat.zero_mul, ite_self, Rat.div_def, Rat.zero_mul, ite_self, Rat.add_zero]
end NBK
