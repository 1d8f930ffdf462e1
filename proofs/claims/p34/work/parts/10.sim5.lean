/-! A GHOST STEP, WHOLE: steps that stay in the method -/
def gh_lenP (i : Instr) (len : Nat) : Prop := match i with
  | .tableswitch _ _ _ _ => True
  | _ => len = gh_ilen i
def gh_putP (own : Nat) (nm : String) (i : Instr) : Prop := match i with
  | .putfield idx => ∀ ci k, gh_fR own idx = some (ci, k) → gh_fin ci k = true → nm = "<init>" ∧ (vwCl.getD ci ("", fun _ => ("", "", "", false), 0)).1 = gh_on own
  | _ => True
def gh_stP (i : Instr) (k : Nat) : Prop := match i with
  | .istore j => k = j
  | .istore_n j => k = j.val
  | .astore j => k = j
  | .astore_n j => k = j.val
  | .iinc j _ => k = j
  | .lstore j => k = j ∨ k = j + 1
  | .lstore_n j => k = j.val ∨ k = j.val + 1
  | _ => False
section GS
variable {z : gh_Z} {p : Program} {l : Launch} {e : Env} {R : Room} {s : State} {m : MethodId} {args : Array Value} {below : List Frame} {meth : Method} {c : Code} {nL g0 z0 k0 y0 own : Nat} {Q : State → Prop} {cc : ByteArray} {rt : Option FieldType} {nm : String} {pc pc' : Nat} {lo lo' : gh_L} {st st' : List Value} {G G' : gh_H}
set_option maxHeartbeats 4000000 in
theorem gh_stepT (hC : gh_Cx z p s m args meth c own cc nL rt nm) {i : Instr} {len : Nat} {fz : Bool} (hd : decode cc pc = .ok (i, len)) (hlen : gh_lenP i len) (hput : gh_putP own nm i)
    (h : gh_step fz own rt pc i len lo st G = some (.inl (pc', lo', st', G'))) (he0 : fz = false → s.heap.size + 1 = z.2.2.2.1 + g0 ∧ k0 = 0 ∧ y0 = 0) (hg : g0 ≤ G.length) (hz : z0 ≤ gh_sz G) (hcc : G.length - g0 + k0 ≤ R.cells) (hss : gh_sz G - z0 + y0 ≤ R.slots) (hrc : G'.length - g0 + k0 ≤ R.cells) (hrs : gh_sz G' - z0 + y0 ≤ R.slots) (hfr : 8 ≤ R.frames) (hlo : 200 ≤ R.locals)
    (hst : ∀ k, gh_stP i k → k < nL)
    (kk : gh_T z p l e R s m args below meth c nL g0 z0 Q k0 y0 pc' lo' st' G') : gh_T z p l e R s m args below meth c nL g0 z0 Q k0 y0 pc lo st G := by
  have hx := hC.1
  have hb := hC.2.1
  have hown := hC.2.2.2.2.2.1
  have hts := hC.2.2.2.2.2.2.1
  cases i with
  | iconst n => obtain rfl : len = _ := hlen; obtain ⟨rfl, rfl, rfl, rfl⟩ := gh_go_inv h; exact fun H locs ls hR hS hl => lv_iconst hx hb hd rfl (kk H locs ls hR hS hl)
  | bipush n => obtain rfl : len = _ := hlen; obtain ⟨rfl, rfl, rfl, rfl⟩ := gh_go_inv h; exact fun H locs ls hR hS hl => lv_bipush hx hb hd rfl (kk H locs ls hR hS hl)
  | sipush n => obtain rfl : len = _ := hlen; obtain ⟨rfl, rfl, rfl, rfl⟩ := gh_go_inv h; exact fun H locs ls hR hS hl => lv_sipush hx hb hd rfl (kk H locs ls hR hS hl)
  | lconst n => obtain rfl : len = _ := hlen; obtain ⟨rfl, rfl, rfl, rfl⟩ := gh_go_inv h; exact fun H locs ls hR hS hl => lv_lconst hx hb hd rfl (kk H locs ls hR hS hl)
  | ldc idx =>
    obtain rfl : len = _ := hlen
    obtain ⟨w, hw, rfl, rfl, rfl, rfl⟩ := gh_push_inv h
    obtain ⟨x, hx9, rfl⟩ := Option.map_eq_some_iff.mp hw
    exact fun H locs ls hR hS hl => lv_ldc hx hb hown (hts _ (gh_iAll own _ (gh_look hx9))) hd (kk H locs ls hR hS hl)
  | ldc_w idx =>
    obtain rfl : len = _ := hlen
    obtain ⟨w, hw, rfl, rfl, rfl, rfl⟩ := gh_push_inv h
    obtain ⟨x, hx9, rfl⟩ := Option.map_eq_some_iff.mp hw
    exact fun H locs ls hR hS hl => lv_ldcw hx hb hown (hts _ (gh_iAll own _ (gh_look hx9))) hd (kk H locs ls hR hS hl)
  | ldc2_w idx =>
    obtain rfl : len = _ := hlen
    obtain ⟨w, hw, rfl, rfl, rfl, rfl⟩ := gh_push_inv h
    obtain ⟨x, hx9, rfl⟩ := Option.map_eq_some_iff.mp hw
    exact fun H locs ls hR hS hl => lv_ldc2 hx hb hown (hts _ (gh_jAll own _ (gh_look hx9))) hd (kk H locs ls hR hS hl)
  | iload k =>
    obtain rfl : len = _ := hlen
    obtain ⟨w, hw, rfl, rfl, rfl, rfl⟩ := gh_push_inv h
    intro H locs ls hR hS hl
    obtain ⟨hp, hv⟩ := gh_ld_spec hl hw
    obtain ⟨x, rfl⟩ := gh_isI_inv hp
    exact lv_iload hx hb hd hv (kk H locs ls hR hS hl)
  | iload_n k =>
    obtain rfl : len = _ := hlen
    obtain ⟨w, hw, rfl, rfl, rfl, rfl⟩ := gh_push_inv h
    intro H locs ls hR hS hl
    obtain ⟨hp, hv⟩ := gh_ld_spec hl hw
    obtain ⟨x, rfl⟩ := gh_isI_inv hp
    exact lv_iload_n hx hb hd rfl hv (kk H locs ls hR hS hl)
  | lload k =>
    obtain rfl : len = _ := hlen
    obtain ⟨w, hw, rfl, rfl, rfl, rfl⟩ := gh_push_inv h
    intro H locs ls hR hS hl
    obtain ⟨hp, hv⟩ := gh_ld_spec hl hw
    obtain ⟨x, rfl⟩ := gh_isJ_inv hp
    exact lv_lload hx hb hd hv (kk H locs ls hR hS hl)
  | lload_n k =>
    obtain rfl : len = _ := hlen
    obtain ⟨w, hw, rfl, rfl, rfl, rfl⟩ := gh_push_inv h
    intro H locs ls hR hS hl
    obtain ⟨hp, hv⟩ := gh_ld_spec hl hw
    obtain ⟨x, rfl⟩ := gh_isJ_inv hp
    exact lv_lload_n hx hb hd rfl hv (kk H locs ls hR hS hl)
  | aload k =>
    obtain rfl : len = _ := hlen
    obtain ⟨w, hw, rfl, rfl, rfl, rfl⟩ := gh_push_inv h
    intro H locs ls hR hS hl
    obtain ⟨hp, hv⟩ := gh_ld_spec hl hw
    obtain ⟨x, rfl⟩ := gh_isA_inv hp
    exact lv_aload hx hb hd hv (kk H locs ls hR hS hl)
  | aload_n k =>
    obtain rfl : len = _ := hlen
    obtain ⟨w, hw, rfl, rfl, rfl, rfl⟩ := gh_push_inv h
    intro H locs ls hR hS hl
    obtain ⟨hp, hv⟩ := gh_ld_spec hl hw
    obtain ⟨x, rfl⟩ := gh_isA_inv hp
    exact lv_aload_n hx hb hd rfl hv (kk H locs ls hR hS hl)
  | istore k =>
    obtain rfl : len = _ := hlen
    obtain ⟨v, rfl, hp, rfl, rfl, rfl⟩ := gh_pop1_inv h
    obtain ⟨x, rfl⟩ := gh_isI_inv hp
    intro H locs ls hR hS hl
    exact lv_istore hx hb hd hl (hst k rfl) (gh_st1_el z lo k (.int x)).symm (fun ls' hl' => kk H locs ls' hR hS hl')
  | istore_n k =>
    obtain rfl : len = _ := hlen
    obtain ⟨v, rfl, hp, rfl, rfl, rfl⟩ := gh_pop1_inv h
    obtain ⟨x, rfl⟩ := gh_isI_inv hp
    intro H locs ls hR hS hl
    exact lv_istore_n hx hb hd rfl hl (hst k.val rfl) (gh_st1_el z lo k.val (.int x)).symm (fun ls' hl' => kk H locs ls' hR hS hl')
  | astore k =>
    obtain rfl : len = _ := hlen
    obtain ⟨v, rfl, hp, rfl, rfl, rfl⟩ := gh_pop1_inv h
    obtain ⟨x, rfl⟩ := gh_isA_inv hp
    intro H locs ls hR hS hl
    exact lv_astore hx hb hd hl (hst k rfl) (gh_st1_el z lo k (.ref x)).symm (fun ls' hl' => kk H locs ls' hR hS hl')
  | astore_n k =>
    obtain rfl : len = _ := hlen
    obtain ⟨v, rfl, hp, rfl, rfl, rfl⟩ := gh_pop1_inv h
    obtain ⟨x, rfl⟩ := gh_isA_inv hp
    intro H locs ls hR hS hl
    exact lv_astore_n hx hb hd rfl hl (hst k.val rfl) (gh_st1_el z lo k.val (.ref x)).symm (fun ls' hl' => kk H locs ls' hR hS hl')
  | lstore k =>
    obtain rfl : len = _ := hlen
    obtain ⟨x, rfl, rfl, rfl, rfl⟩ := gh_pop2_inv h
    intro H locs ls hR hS hl
    exact lv_lstore hx hb hd hl (hst (k + 1) (Or.inr rfl)) (gh_st2_el z lo k (.long x)).symm (fun ls' hl' => kk H locs ls' hR hS hl')
  | lstore_n k =>
    obtain rfl : len = _ := hlen
    obtain ⟨x, rfl, rfl, rfl, rfl⟩ := gh_pop2_inv h
    intro H locs ls hR hS hl
    exact lv_lstore_n hx hb hd rfl hl (hst (k.val + 1) (Or.inr rfl)) (gh_st2_el z lo k.val (.long x)).symm (fun ls' hl' => kk H locs ls' hR hS hl')
  | iinc k n =>
    obtain rfl : len = _ := hlen
    have h' : (match gh_ld gh_isI lo k with | some v => gh_go (pc + 3) (gh_st1 lo k (.int (gh_toI v + Int32.ofInt n))) st G | none => none) = some (.inl (pc', lo', st', G')) := h
    split at h'
    · next v hv =>
      obtain ⟨rfl, rfl, rfl, rfl⟩ := gh_go_inv h'
      intro H locs ls hR hS hl
      have hmem : (k, gh_em z v) ∈ gh_lm z lo := by
        unfold gh_ld at hv
        split at hv
        · next w hw =>
          split at hv
          · cases hv; exact gh_el_mem hw
          · cases hv
        · cases hv
      obtain ⟨hp, -⟩ := gh_ld_spec hl hv
      obtain ⟨x, rfl⟩ := gh_isI_inv hp
      obtain ⟨q, hq⟩ := List.getElem?_of_mem hmem
      exact lv_iinc hx hb hd hl hq rfl (hst k rfl) (gh_st1_el z lo k (.int (x + Int32.ofInt n))).symm (fun ls' hl' => kk H locs ls' hR hS hl')
    · cases h'
  | iadd => obtain rfl : len = _ := hlen; obtain ⟨x, y, r, rfl, rfl, rfl, rfl, rfl⟩ := gh_bin_inv h; exact fun H locs ls hR hS hl => lv_iadd hx hb hd (kk H locs ls hR hS hl)
  | isub => obtain rfl : len = _ := hlen; obtain ⟨x, y, r, rfl, rfl, rfl, rfl, rfl⟩ := gh_bin_inv h; exact fun H locs ls hR hS hl => lv_isub hx hb hd (kk H locs ls hR hS hl)
  | imul => obtain rfl : len = _ := hlen; obtain ⟨x, y, r, rfl, rfl, rfl, rfl, rfl⟩ := gh_bin_inv h; exact fun H locs ls hR hS hl => lv_imul hx hb hd (kk H locs ls hR hS hl)
  | iand => obtain rfl : len = _ := hlen; obtain ⟨x, y, r, rfl, rfl, rfl, rfl, rfl⟩ := gh_bin_inv h; exact fun H locs ls hR hS hl => lv_iand hx hb hd (kk H locs ls hR hS hl)
  | ior => obtain rfl : len = _ := hlen; obtain ⟨x, y, r, rfl, rfl, rfl, rfl, rfl⟩ := gh_bin_inv h; exact fun H locs ls hR hS hl => lv_ior hx hb hd (kk H locs ls hR hS hl)
  | ixor => obtain rfl : len = _ := hlen; obtain ⟨x, y, r, rfl, rfl, rfl, rfl, rfl⟩ := gh_bin_inv h; exact fun H locs ls hR hS hl => lv_ixor hx hb hd (kk H locs ls hR hS hl)
  | ishl => obtain rfl : len = _ := hlen; obtain ⟨x, y, r, rfl, rfl, rfl, rfl, rfl⟩ := gh_bin_inv h; exact fun H locs ls hR hS hl => lv_ishl hx hb hd (kk H locs ls hR hS hl)
  | ishr => obtain rfl : len = _ := hlen; obtain ⟨x, y, r, rfl, rfl, rfl, rfl, rfl⟩ := gh_bin_inv h; exact fun H locs ls hR hS hl => lv_ishr hx hb hd (kk H locs ls hR hS hl)
  | iushr => obtain rfl : len = _ := hlen; obtain ⟨x, y, r, rfl, rfl, rfl, rfl, rfl⟩ := gh_bin_inv h; exact fun H locs ls hR hS hl => lv_iushr hx hb hd rfl (kk H locs ls hR hS hl)
  | ladd => obtain rfl : len = _ := hlen; obtain ⟨x, y, r, rfl, rfl, rfl, rfl, rfl⟩ := gh_binJ_inv h; exact fun H locs ls hR hS hl => lv_ladd hx hb hd (kk H locs ls hR hS hl)
  | lmul => obtain rfl : len = _ := hlen; obtain ⟨x, y, r, rfl, rfl, rfl, rfl, rfl⟩ := gh_binJ_inv h; exact fun H locs ls hR hS hl => lv_lmul hx hb hd (kk H locs ls hR hS hl)
  | ldiv => obtain rfl : len = _ := hlen; obtain ⟨x, y, r, rfl, hy, rfl, rfl, rfl, rfl⟩ := gh_binD_inv h; exact fun H locs ls hR hS hl => lv_ldiv hx hb hd hy (kk H locs ls hR hS hl)
  | lrem => obtain rfl : len = _ := hlen; obtain ⟨x, y, r, rfl, hy, rfl, rfl, rfl, rfl⟩ := gh_binD_inv h; exact fun H locs ls hR hS hl => lv_lrem hx hb hd hy (kk H locs ls hR hS hl)
  | idiv => obtain rfl : len = _ := hlen; obtain ⟨x, y, r, rfl, hy, rfl, rfl, rfl, rfl⟩ := gh_binZ_inv h; exact fun H locs ls hR hS hl => lv_idiv hx hb hd hy (kk H locs ls hR hS hl)
  | irem => obtain rfl : len = _ := hlen; obtain ⟨x, y, r, rfl, hy, rfl, rfl, rfl, rfl⟩ := gh_binZ_inv h; exact fun H locs ls hR hS hl => lv_irem hx hb hd hy (kk H locs ls hR hS hl)
  | lcmp =>
    obtain rfl : len = _ := hlen
    simp only [gh_step] at h
    split at h
    · obtain ⟨rfl, rfl, rfl, rfl⟩ := gh_go_inv h; exact fun H locs ls hR hS hl => W.lcmp hx hb hd (kk H locs ls hR hS hl)
    · cases h
  | i2l =>
    obtain rfl : len = _ := hlen
    simp only [gh_step] at h
    split at h
    · obtain ⟨rfl, rfl, rfl, rfl⟩ := gh_go_inv h; exact fun H locs ls hR hS hl => lv_i2l hx hb hd rfl (kk H locs ls hR hS hl)
    · cases h
  | l2i =>
    obtain rfl : len = _ := hlen
    simp only [gh_step] at h
    split at h
    · obtain ⟨rfl, rfl, rfl, rfl⟩ := gh_go_inv h; exact fun H locs ls hR hS hl => lv_l2i hx hb hd rfl (kk H locs ls hR hS hl)
    · cases h
  | dup =>
    obtain rfl : len = _ := hlen
    simp only [gh_step] at h
    split at h
    · split at h
      · next hc => obtain ⟨rfl, rfl, rfl, rfl⟩ := gh_go_inv h; exact fun H locs ls hR hS hl => lv_dup hx hb hd (by rw [gh_em_cat]; exact hc) (kk H locs ls hR hS hl)
      · cases h
    · cases h
  | dup2 =>
    obtain rfl : len = _ := hlen
    simp only [gh_step] at h
    split at h
    · split at h
      · next hc => obtain ⟨rfl, rfl, rfl, rfl⟩ := gh_go_inv h; exact fun H locs ls hR hS hl => lv_dup2_11 hx hb hd (by rw [gh_em_cat]; exact hc.1) (by rw [gh_em_cat]; exact hc.2) (kk H locs ls hR hS hl)
      · cases h
    · cases h
  | pop =>
    obtain rfl : len = _ := hlen
    simp only [gh_step] at h
    split at h
    · split at h
      · next hc => obtain ⟨rfl, rfl, rfl, rfl⟩ := gh_go_inv h; exact fun H locs ls hR hS hl => lv_pop hx hb hd (by rw [gh_em_cat]; exact hc) (kk H locs ls hR hS hl)
      · cases h
    · cases h
  | ifCond cd off =>
    obtain rfl : len = _ := hlen
    simp only [gh_step] at h
    split at h
    · obtain ⟨ht, rfl, rfl, rfl, rfl⟩ := gh_jmp_inv h; exact gs_if hx hb hd ht kk
    · cases h
  | if_icmp cd off =>
    obtain rfl : len = _ := hlen
    simp only [gh_step] at h
    split at h
    · obtain ⟨ht, rfl, rfl, rfl, rfl⟩ := gh_jmp_inv h; exact gs_icmp hx hb hd ht kk
    · cases h
  | goto off => obtain rfl : len = _ := hlen; obtain ⟨ht, rfl, rfl, rfl, rfl⟩ := gh_jmp_inv h; exact fun H locs ls hR hS hl => lv_goto hx hb hd ht (kk H locs ls hR hS hl)
  | tableswitch a b d f => exact gs_sw hx hb hd h kk
  | getfield idx =>
    obtain rfl : len = _ := hlen
    simp only [gh_step] at h
    split at h
    · next ci k hf => exact gs_get hC hf hd h kk
    · cases h
  | putfield idx =>
    obtain rfl : len = _ := hlen
    simp only [gh_step] at h
    split at h
    · next ci k hf => exact gs_put hC hf (hput ci k hf) hd h kk
    · cases h
  | iaload => obtain rfl : len = _ := hlen; exact gs_iald hC hd h kk
  | laload => obtain rfl : len = _ := hlen; exact gs_lald hC hd h kk
  | baload => obtain rfl : len = _ := hlen; exact gs_zald hC hd h kk
  | aaload => obtain rfl : len = _ := hlen; exact gs_aald hC hd h kk
  | iastore => obtain rfl : len = _ := hlen; exact gs_iast hC hd h kk
  | lastore => obtain rfl : len = _ := hlen; exact gs_last hC hd h kk
  | bastore => obtain rfl : len = _ := hlen; exact gs_zast hC hd h kk
  | aastore => obtain rfl : len = _ := hlen; exact gs_aast hC hd h kk
  | arraylength => obtain rfl : len = _ := hlen; exact gs_len hC hd h kk
  | new idx => obtain rfl : len = _ := hlen; exact gs_new hC hd h he0 hg hz hrc hrs kk
  | newarray t => obtain rfl : len = _ := hlen; exact gs_newa hC hd h he0 hg hz hrc hrs kk
  | anewarray idx =>
    obtain rfl : len = _ := hlen
    simp only [gh_step] at h
    split at h
    · next he => exact gs_newq hC he hd h he0 hg hz hrc hrs kk
    · cases h
  | invokevirtual idx =>
    simp only [gh_step, gh_call] at h
    split at h
    · split at h
      · split at h <;> cases h
      · cases h
    · cases h
  | invokestatic idx =>
    obtain rfl : len = _ := hlen
    simp only [gh_step] at h
    split at h
    · next b hb9 => exact gs_mm hC hb9 hd h (by omega) (by omega) hcc hss kk
    · split at h
      · next ha => exact gs_acopy hC ha hd h (by omega) (by omega) kk
      · unfold gh_call at h
        split at h
        · split at h <;> cases h
        · cases h
  | invokespecial idx =>
    obtain rfl : len = _ := hlen
    simp only [gh_step] at h
    split at h
    · next ho =>
      split at h
      · split at h
        · next hc => obtain ⟨rfl, rfl, rfl, rfl⟩ := gh_go_inv h; exact gs_oinit hC ho hd hc (by omega) (by omega) kk
        · cases h
      · cases h
    · unfold gh_call at h
      split at h
      · split at h
        · split at h <;> cases h
        · cases h
      · cases h
  | ireturn => simp only [gh_step, gh_ret] at h; split at h <;> (try split at h) <;> cases h
  | lreturn => simp only [gh_step, gh_ret] at h; (repeat' split at h) <;> cases h
  | areturn => simp only [gh_step, gh_ret] at h; (repeat' split at h) <;> cases h
  | return_ => simp only [gh_step] at h; (repeat' split at h) <;> cases h
  | _ => cases (show (none : Option gh_R) = some (.inl (pc', lo', st', G')) from h)
end GS
