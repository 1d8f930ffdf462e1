/-! EVERY PLAIN METHOD KEEPS ITS CONTRACT AT EVERY GHOST RUN -/
theorem gh_put_mono {ty : FieldType} {ci k pc pc' : Nat} {l l' : gh_L} {st st' : List Value} {G G' : gh_H} (h : gh_put ty ci k pc l st G = some (.inl (pc', l', st', G'))) : G.length ≤ G'.length ∧ gh_sz G ≤ gh_sz G' := by
  unfold gh_put at h
  split at h
  · split at h
    · next hat =>
      split at h
      · obtain ⟨rfl, rfl, rfl, rfl⟩ := gh_go_inv h
        exact ⟨by rw [List.length_set]; exact Nat.le_refl _, by rw [gh_sz_set (gh_at_inv hat) (List.length_set ..)]; exact Nat.le_refl _⟩
      · cases h
    · cases h
  · cases h
theorem gh_ast_mono {f : Value → Bool} {kd pc pc' : Nat} {l l' : gh_L} {st st' : List Value} {G G' : gh_H} (h : gh_ast kd pc f l st G = some (.inl (pc', l', st', G'))) : G.length ≤ G'.length ∧ gh_sz G ≤ gh_sz G' := by
  obtain ⟨v, i, a, vs, -, hG, -, -, -, -, -, rfl⟩ := gh_ast_inv h
  exact ⟨by rw [List.length_set]; exact Nat.le_refl _, by rw [gh_sz_set hG (List.length_set ..)]; exact Nat.le_refl _⟩
theorem gh_newa_mono {fz : Bool} {kv : Option (Nat × Value)} {pc pc' : Nat} {l l' : gh_L} {st st' : List Value} {G G' : gh_H} (h : gh_newa fz kv pc l st G = some (.inl (pc', l', st', G'))) : G.length ≤ G'.length ∧ gh_sz G ≤ gh_sz G' := by
  obtain ⟨kd, v, n, r, -, -, -, -, -, -, -, -, rfl⟩ := gh_newa_inv h
  exact ⟨by rw [List.length_append]; omega, by rw [gh_sz_push]; omega⟩
theorem gh_new_mono {fz : Bool} {own idx pc pc' : Nat} {l l' : gh_L} {st st' : List Value} {G G' : gh_H} (h : gh_new fz own idx pc l st G = some (.inl (pc', l', st', G'))) : G.length ≤ G'.length ∧ gh_sz G ≤ gh_sz G' := by
  unfold gh_new at h
  split at h
  · split at h <;> cases h
  · split at h
    · split at h
      · obtain ⟨rfl, rfl, rfl, rfl⟩ := gh_go_inv h
        exact ⟨by rw [List.length_append]; omega, by rw [gh_sz_push]; omega⟩
      · cases h
    · cases h
theorem gh_acopy_mono {pc pc' : Nat} {l l' : gh_L} {st st' : List Value} {G G' : gh_H} (h : gh_acopy pc l st G = some (.inl (pc', l', st', G'))) : G.length ≤ G'.length ∧ gh_sz G ≤ gh_sz G' := by
  unfold gh_acopy at h
  split at h
  · split at h
    · next hG0 hG1 =>
      split at h
      · obtain ⟨rfl, rfl, rfl, rfl⟩ := gh_go_inv h
        exact ⟨by rw [List.length_set]; exact Nat.le_refl _, by rw [gh_sz_set hG1 (gh_cpy_len ..)]; exact Nat.le_refl _⟩
      · cases h
    · cases h
  · cases h
set_option maxHeartbeats 4000000 in
theorem gh_step_mono {fz : Bool} {own : Nat} {rt : Option FieldType} {pc pc' len : Nat} {i : Instr} {l l' : gh_L} {st st' : List Value} {G G' : gh_H} (h : gh_step fz own rt pc i len l st G = some (.inl (pc', l', st', G'))) : G.length ≤ G'.length ∧ gh_sz G ≤ gh_sz G' := by
  cases i with
  | putfield idx =>
    simp only [gh_step] at h
    split at h
    · exact gh_put_mono h
    · cases h
  | iastore => exact gh_ast_mono h
  | lastore => exact gh_ast_mono h
  | bastore => exact gh_ast_mono h
  | aastore => exact gh_ast_mono h
  | new idx => exact gh_new_mono h
  | newarray t => exact gh_newa_mono h
  | anewarray idx =>
    simp only [gh_step] at h
    split at h
    · exact gh_newa_mono h
    · cases h
  | invokestatic idx =>
    simp only [gh_step] at h
    split at h
    · simp only [gh_mm, gh_go] at h
      (repeat' split at h) <;> first | (cases h; exact ⟨Nat.le_refl _, Nat.le_refl _⟩) | cases h
    · split at h
      · exact gh_acopy_mono h
      · simp only [gh_call] at h
        (repeat' split at h) <;> cases h
  | _ =>
    first
    | exact absurd (show (none : Option gh_R) = some (.inl (pc', l', st', G')) from h) (by simp)
    | (simp only [gh_step, gh_go, gh_push, gh_pop1, gh_pop2, gh_bin, gh_binJ, gh_binD, gh_binZ, gh_jmp, gh_sw, gh_get, gh_ald, gh_len, gh_ret, gh_call] at h
       repeat' split at h
       all_goals first | (cases h; exact ⟨Nat.le_refl _, Nat.le_refl _⟩) | cases h)
theorem gh_ex_mono {fz : Bool} {C : Nat → List Value → gh_H → Option (gh_O × gh_H)} {own : Nat} {rt : Option FieldType} {hnd : Nat → Nat → Option (Nat × Nat)} {K : List (Nat × Instr × Nat)} (hCm : ∀ μ as G o G', C μ as G = some (o, G') → G.length ≤ G'.length ∧ gh_sz G ≤ gh_sz G') :
    ∀ (n pc : Nat) (l : gh_L) (st : List Value) (G : gh_H) (o : gh_O) (G' : gh_H), gh_ex fz C own rt hnd K n pc l st G = some (o, G') → G.length ≤ G'.length ∧ gh_sz G ≤ gh_sz G' := by
  intro n
  induction n with
  | zero => intro pc l st G o G' h; cases h
  | succ n ih =>
    intro pc l st G o G' h
    rw [gh_ex] at h
    split at h
    · cases h
    · split at h
      · cases h
      · next pc1 l1 st1 G1 hs =>
        have h1 := gh_step_mono hs
        have h2 := ih _ _ _ _ _ _ h
        omega
      · cases h; omega
      · split at h
        · cases h
        · next v G1 hc =>
          have h1 := hCm _ _ _ _ _ hc
          have h2 := ih _ _ _ _ _ _ h
          omega
        · next E G1 hc =>
          have h1 := hCm _ _ _ _ _ hc
          split at h
          · cases h; exact h1
          · have h2 := ih _ _ _ _ _ _ h
            omega
theorem gh_cl_mono {fz : Bool} {N : Nat} : ∀ (d μ : Nat) (as : List Value) (G : gh_H) (o : gh_O) (G' : gh_H), gh_cl fz N d μ as G = some (o, G') → G.length ≤ G'.length ∧ gh_sz G ≤ gh_sz G' := by
  intro d
  induction d with
  | zero => intro μ as G o G' h; cases h
  | succ d ih =>
    intro μ as G o G' h
    rw [gh_cl] at h
    split at h
    · split at h
      · exact gh_ex_mono ih _ _ _ _ _ _ _ h
      · cases h
    · cases h
theorem gh_args_em (z : gh_Z) : ∀ (as : List Value) (i : Nat), lv_args i (as.map (gh_em z)) = gh_lm z (lv_args i as) := by
  intro as
  induction as with
  | nil => intro i; rfl
  | cons v as ih =>
    intro i
    show (i, gh_em z v) :: lv_args (if (gh_em z v).category = 2 then i + 2 else i + 1) (as.map (gh_em z)) = (i, gh_em z v) :: gh_lm z (lv_args (if v.category = 2 then i + 2 else i + 1) as)
    rw [gh_em_cat, ih]
theorem gh_sl_len (z : gh_Z) (as : List Value) : (lg_sl (as.map (gh_em z))).length = gh_cat as := by
  unfold lg_sl gh_cat
  induction as with
  | nil => rfl
  | cons v as ih =>
    rw [List.map_cons, List.flatMap_cons, List.length_append, ih, List.map_cons, List.sum_cons, gh_em_cat]
    congr 1
    cases v <;> rfl
section GN
variable {z : gh_Z} {p : Program} {l : Launch} {e : Env} {R : Room} {s : State} {m : MethodId} {args : Array Value} {below : List Frame} {meth : Method} {c : Code} {nL g0 z0 k0 y0 own : Nat} {Q : State → Prop} {cc : ByteArray} {rt : Option FieldType} {nm : String} {pc pc' : Nat} {lo lo' : gh_L} {st st' : List Value} {G G' : gh_H}
theorem gh_ret_inv {f : Value → Bool} {o : gh_O} (h : gh_ret f rt st = some (.inr (.inl o))) : ∃ v ty, st = [v] ∧ f v = true ∧ rt = some ty ∧ narrow ty v = v ∧ o = .inl (some v) := by
  unfold gh_ret at h
  split at h
  · next v =>
    split at h
    · next hq =>
      cases h
      cases rt with
      | none => cases hq.2
      | some ty => exact ⟨v, ty, rfl, hq.1, rfl, of_decide_eq_true hq.2, rfl⟩
    · cases h
  · cases h
/-- a return -/
theorem gh_retT (hC : gh_Cx z p s m args meth c own cc nL rt nm) {i : Instr} {len : Nat} {fz : Bool} {v : Option Value} (hd : decode cc pc = .ok (i, len)) (hlen : gh_lenP i len) (h : gh_step fz own rt pc i len lo st G = some (.inr (.inl (.inl v)))) :
    gh_T z p l e R s m args below meth c nL g0 z0 (vx_MQ below (gh_Qo z (.inl v) G) (gh_Xo z (.inl v) G) args s (G.length - g0 + k0) (gh_sz G - z0 + y0) (gh_A z)) k0 y0 pc lo st G := by
  obtain ⟨hx, hb, hml, hr, hlk, hown, hts, hKB, -⟩ := hC
  intro H locs ls hR hS hl
  have hq : ∀ (w : Option Value), w = v → ∀ t : State, t.heap = H → s.WarmedH t.vm → gh_Qo z (.inl v) G args s (.returned (w.map (gh_em z))) t := fun w hw t ht _ => ⟨v, rfl, by rw [hw], by rw [ht]; exact hR, hS.F ht⟩
  refine vx_ret ?_
  cases i with
  | ireturn =>
    obtain rfl : len = _ := hlen
    obtain ⟨w, ty, rfl, hf, rfl, hn, ho⟩ := gh_ret_inv h
    obtain ⟨x, rfl⟩ := gh_isI_inv hf
    cases ho
    exact W.zret hx hb hr hn (hq (some (.int x)) rfl) hS.2.2 hd hlk
  | lreturn =>
    obtain rfl : len = _ := hlen
    simp only [gh_step] at h
    split at h
    · next hrt =>
      obtain ⟨w, ty, rfl, hf, -, hn, ho⟩ := gh_ret_inv h
      obtain ⟨x, rfl⟩ := gh_isJ_inv hf
      cases ho
      exact W.lret hx hb (hr.trans hrt) (hq (some (.long x)) rfl) hS.2.2 hd hlk
    · cases h
  | areturn =>
    obtain rfl : len = _ := hlen
    simp only [gh_step] at h
    split at h
    · next hrt =>
      obtain ⟨w, ty, rfl, hf, rfl, hn, ho⟩ := gh_ret_inv h
      obtain ⟨x, rfl⟩ := gh_isA_inv hf
      cases ho
      have hty : (∃ n, ty = .object n) ∨ ∃ t, ty = .array t := by
        cases ty with
        | object n => exact Or.inl ⟨n, rfl⟩
        | _ => cases hrt
      exact W.aret hx hb hr hty (Or.inr ⟨_, rfl⟩) (hq (some (.ref x)) rfl) hS.2.2 hd hlk
    · cases h
  | return_ =>
    obtain rfl : len = _ := hlen
    simp only [gh_step] at h
    split at h
    · split at h
      · next hrt =>
        cases h
        exact W.vret hx hb (hr.trans hrt) (hq none rfl) hS.2.2 hd hlk
      · cases h
    · cases h
  | _ =>
    first
    | exact absurd (show (none : Option gh_R) = some (.inr (.inl (.inl v))) from h) (by simp)
    | (simp only [gh_step, gh_go, gh_push, gh_pop1, gh_pop2, gh_bin, gh_binJ, gh_binD, gh_binZ, gh_jmp, gh_sw, gh_get, gh_put, gh_ald, gh_ast, gh_len, gh_newa, gh_new, gh_ret, gh_call, gh_mm, gh_acopy] at h
       repeat' split at h
       all_goals cases h)
end GN
