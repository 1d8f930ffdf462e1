/-! EACH GHOST STEP IS A STEP OF THE MACHINE (steps that stay in the method, without the heap) -/
theorem gh_go_inv {pc pc' : Nat} {l l' : gh_L} {st st' : List Value} {G G' : gh_H} (h : gh_go pc l st G = some (.inl (pc', l', st', G'))) : pc = pc' ∧ l = l' ∧ st = st' ∧ G = G' := by
  unfold gh_go at h
  cases h
  exact ⟨rfl, rfl, rfl, rfl⟩
theorem gh_push_inv {v : Option Value} {pc pc' : Nat} {l l' : gh_L} {st st' : List Value} {G G' : gh_H} (h : gh_push v pc l st G = some (.inl (pc', l', st', G'))) : ∃ w, v = some w ∧ pc = pc' ∧ l = l' ∧ w :: st = st' ∧ G = G' := by
  cases v with
  | none => exact nomatch h
  | some w => exact ⟨w, rfl, gh_go_inv h⟩
theorem gh_isI_inv {v : Value} (h : gh_isI v = true) : ∃ x, v = .int x := by
  cases v with
  | int x => exact ⟨x, rfl⟩
  | _ => cases h
theorem gh_isJ_inv {v : Value} (h : gh_isJ v = true) : ∃ x, v = .long x := by
  cases v with
  | long x => exact ⟨x, rfl⟩
  | _ => cases h
theorem gh_isA_inv {v : Value} (h : gh_isA v = true) : ∃ x, v = .ref x := by
  cases v with
  | ref x => exact ⟨x, rfl⟩
  | _ => cases h
theorem gh_bin_inv {f : Int32 → Int32 → Int32} {pc pc' : Nat} {l l' : gh_L} {st st' : List Value} {G G' : gh_H} (h : gh_bin f pc l st G = some (.inl (pc', l', st', G'))) : ∃ x y r, st = .int y :: .int x :: r ∧ pc + 1 = pc' ∧ l = l' ∧ .int (f x y) :: r = st' ∧ G = G' := by
  unfold gh_bin at h
  split at h
  · exact ⟨_, _, _, rfl, gh_go_inv h⟩
  · cases h
theorem gh_binJ_inv {f : Int64 → Int64 → Int64} {pc pc' : Nat} {l l' : gh_L} {st st' : List Value} {G G' : gh_H} (h : gh_binJ f pc l st G = some (.inl (pc', l', st', G'))) : ∃ x y r, st = .long y :: .long x :: r ∧ pc + 1 = pc' ∧ l = l' ∧ .long (f x y) :: r = st' ∧ G = G' := by
  unfold gh_binJ at h
  split at h
  · exact ⟨_, _, _, rfl, gh_go_inv h⟩
  · cases h
theorem gh_binD_inv {f : Int64 → Int64 → Int64} {pc pc' : Nat} {l l' : gh_L} {st st' : List Value} {G G' : gh_H} (h : gh_binD f pc l st G = some (.inl (pc', l', st', G'))) : ∃ x y r, st = .long y :: .long x :: r ∧ ¬ y = 0 ∧ pc + 1 = pc' ∧ l = l' ∧ .long (f x y) :: r = st' ∧ G = G' := by
  unfold gh_binD at h
  split at h
  · split at h
    · cases h
    · next hy => exact ⟨_, _, _, rfl, hy, gh_go_inv h⟩
  · cases h
theorem gh_binZ_inv {f : Int32 → Int32 → Int32} {pc pc' : Nat} {l l' : gh_L} {st st' : List Value} {G G' : gh_H} (h : gh_binZ f pc l st G = some (.inl (pc', l', st', G'))) : ∃ x y r, st = .int y :: .int x :: r ∧ ¬ y = 0 ∧ pc + 1 = pc' ∧ l = l' ∧ .int (f x y) :: r = st' ∧ G = G' := by
  unfold gh_binZ at h
  split at h
  · split at h
    · cases h
    · next hy => exact ⟨_, _, _, rfl, hy, gh_go_inv h⟩
  · cases h
theorem gh_pop1_inv {p : Value → Bool} {k pc pc' : Nat} {l l' : gh_L} {st st' : List Value} {G G' : gh_H} (h : gh_pop1 p k pc l st G = some (.inl (pc', l', st', G'))) : ∃ v, st = v :: st' ∧ p v = true ∧ pc = pc' ∧ gh_st1 l k v = l' ∧ G = G' := by
  unfold gh_pop1 at h
  split at h
  · split at h
    · next hp =>
      obtain ⟨rfl, rfl, rfl, rfl⟩ := gh_go_inv h
      exact ⟨_, rfl, hp, rfl, rfl, rfl⟩
    · cases h
  · cases h
theorem gh_pop2_inv {k pc pc' : Nat} {l l' : gh_L} {st st' : List Value} {G G' : gh_H} (h : gh_pop2 k pc l st G = some (.inl (pc', l', st', G'))) : ∃ x, st = .long x :: st' ∧ pc = pc' ∧ gh_st2 l k (.long x) = l' ∧ G = G' := by
  unfold gh_pop2 at h
  split at h
  · obtain ⟨rfl, rfl, rfl, rfl⟩ := gh_go_inv h
    exact ⟨_, rfl, rfl, rfl, rfl⟩
  · cases h
theorem gh_jmp_inv {b : Bool} {pc len pc' : Nat} {off : Int} {l l' : gh_L} {st st' : List Value} {G G' : gh_H} (h : gh_jmp b pc len off l st G = some (.inl (pc', l', st', G'))) : (pc : Int) + off = (gh_tgt pc off : Int) ∧ (if b = true then gh_tgt pc off else pc + len) = pc' ∧ l = l' ∧ st = st' ∧ G = G' := by
  unfold gh_jmp at h
  split at h
  · next h0 => exact ⟨by unfold gh_tgt; omega, gh_go_inv h⟩
  · cases h
def gh_ilen (i : Instr) : Nat := match i with
  | .bipush _ | .ldc _ | .iload _ | .lload _ | .aload _ | .istore _ | .astore _ | .lstore _ | .newarray _ => 2
  | .sipush _ | .ldc_w _ | .ldc2_w _ | .iinc _ _ | .ifCond _ _ | .if_icmp _ _ | .goto _ | .getfield _ | .putfield _ | .new _ | .anewarray _ | .invokevirtual _ | .invokestatic _ | .invokespecial _ => 3
  | .tableswitch _ _ _ _ => 0
  | _ => 1
def gh_lenB (K : List (Nat × Instr × Nat)) : Bool := K.all fun e => match e.2.1 with
  | .tableswitch _ _ _ _ => true
  | _ => decide (e.2.2 = gh_ilen e.2.1)
section GS
variable {z : gh_Z} {p : Program} {l : Launch} {e : Env} {R : Room} {s : State} {m : MethodId} {args : Array Value} {below : List Frame} {meth : Method} {c : Code} {nL g0 z0 k0 y0 own : Nat} {Q : State → Prop} {cc : ByteArray} {rt : Option FieldType} {nm : String} {pc pc' : Nat} {lo lo' : gh_L} {st st' : List Value} {G G' : gh_H}
theorem gs_icmp (hx : p.tables.exec = Jvm.exec) (hb : c.code = cc) {cd : ClassFile.Cond} {off : Int} (hd : decode cc pc = .ok (.if_icmp cd off, 3)) {x y : Int32} {r : List Value} (ht : (pc : Int) + off = (gh_tgt pc off : Int))
    (k : gh_T z p l e R s m args below meth c nL g0 z0 Q k0 y0 (if gh_cmp cd x y = true then gh_tgt pc off else pc + 3) lo r G) : gh_T z p l e R s m args below meth c nL g0 z0 Q k0 y0 pc lo (.int y :: .int x :: r) G := by
  intro H locs ls hR hS hl
  have k := k H locs ls hR hS hl
  cases cd with
  | eq => exact lv_icmp_eq hx hb hd ht (fun q => by simpa [gh_cmp, q] using k) (fun q => by simpa [gh_cmp, q] using k)
  | ne => exact lv_icmp_ne hx hb hd ht (fun q => by simpa [gh_cmp, q] using k) (fun q => by simpa [gh_cmp, q] using k)
  | lt => exact lv_icmp_lt hx hb hd ht (fun q => by simpa only [gh_cmp, q, decide_true, if_true] using k) (fun q => by simpa only [gh_cmp, q, decide_false, Bool.false_eq_true, if_false] using k)
  | ge => exact lv_icmp_ge hx hb hd ht (fun q => by simpa only [gh_cmp, q, decide_true, if_true] using k) (fun q => by simpa only [gh_cmp, q, decide_false, Bool.false_eq_true, if_false] using k)
  | gt => exact lv_icmp_gt hx hb hd ht (fun q => by simpa only [gh_cmp, q, decide_true, if_true] using k) (fun q => by simpa only [gh_cmp, q, decide_false, Bool.false_eq_true, if_false] using k)
  | le => exact lv_icmp_le hx hb hd ht (fun q => by simpa only [gh_cmp, q, decide_true, if_true] using k) (fun q => by simpa only [gh_cmp, q, decide_false, Bool.false_eq_true, if_false] using k)
theorem gs_if (hx : p.tables.exec = Jvm.exec) (hb : c.code = cc) {cd : ClassFile.Cond} {off : Int} (hd : decode cc pc = .ok (.ifCond cd off, 3)) {x : Int32} {r : List Value} (ht : (pc : Int) + off = (gh_tgt pc off : Int))
    (k : gh_T z p l e R s m args below meth c nL g0 z0 Q k0 y0 (if gh_cmp cd x 0 = true then gh_tgt pc off else pc + 3) lo r G) : gh_T z p l e R s m args below meth c nL g0 z0 Q k0 y0 pc lo (.int x :: r) G := by
  intro H locs ls hR hS hl
  have k := k H locs ls hR hS hl
  cases cd with
  | eq => exact lv_if_eq hx hb hd ht (fun q => by simpa [gh_cmp, q] using k) (fun q => by simpa [gh_cmp, q] using k)
  | ne => exact lv_if_ne hx hb hd ht (fun q => by simpa [gh_cmp, q] using k) (fun q => by simpa [gh_cmp, q] using k)
  | lt => exact lv_if_lt hx hb hd ht (fun q => by simpa only [gh_cmp, q, decide_true, if_true] using k) (fun q => by simpa only [gh_cmp, q, decide_false, Bool.false_eq_true, if_false] using k)
  | ge => exact lv_if_ge hx hb hd ht (fun q => by simpa only [gh_cmp, q, decide_true, if_true] using k) (fun q => by simpa only [gh_cmp, q, decide_false, Bool.false_eq_true, if_false] using k)
  | gt => exact lv_if_gt hx hb hd ht (fun q => by simpa only [gh_cmp, q, decide_true, if_true] using k) (fun q => by simpa only [gh_cmp, q, decide_false, Bool.false_eq_true, if_false] using k)
  | le => exact lv_if_le hx hb hd ht (fun q => by simpa only [gh_cmp, q, decide_true, if_true] using k) (fun q => by simpa only [gh_cmp, q, decide_false, Bool.false_eq_true, if_false] using k)
theorem gs_sw (hx : p.tables.exec = Jvm.exec) (hb : c.code = cc) {dflt lw hi : Int} {offs : Array Int} {len : Nat} (hd : decode cc pc = .ok (.tableswitch dflt lw hi offs, len)) (h : gh_sw dflt lw hi offs pc lo st G = some (.inl (pc', lo', st', G')))
    (k : gh_T z p l e R s m args below meth c nL g0 z0 Q k0 y0 pc' lo' st' G') : gh_T z p l e R s m args below meth c nL g0 z0 Q k0 y0 pc lo st G := by
  unfold gh_sw at h
  split at h
  · next x r =>
    split at h
    · next hn =>
      split at h
      · next h0 =>
        obtain ⟨rfl, rfl, rfl, rfl⟩ := gh_go_inv h
        exact fun H locs ls hR hS hl => lv_tableOut hx hb hd hn (by unfold gh_tgt; omega) (k H locs ls hR hS hl)
      · cases h
    · next hn =>
      split at h
      · next off ho =>
        split at h
        · next h0 =>
          obtain ⟨rfl, rfl, rfl, rfl⟩ := gh_go_inv h
          exact fun H locs ls hR hS hl => lv_tableIn hx hb hd (fun q => hn (Or.inl q)) (fun q => hn (Or.inr q)) ho (by unfold gh_tgt; omega) (k H locs ls hR hS hl)
        · cases h
      · cases h
  · cases h
end GS
