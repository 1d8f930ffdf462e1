/-! SAME: its code, run over both objects -/
theorem ks_0 : gk_136.lookup 0 = some (.iload_n 2, 1) := by decide +kernel
theorem ks_1 : gk_136.lookup 1 = some (.ifCond .ne 7, 3) := by decide +kernel
theorem ks_4 : gk_136.lookup 4 = some (.iconst 0, 1) := by decide +kernel
theorem ks_5 : gk_136.lookup 5 = some (.goto 6, 3) := by decide +kernel
theorem ks_8 : gk_136.lookup 8 = some (.iload_n 3, 1) := by decide +kernel
theorem ks_9 : gk_136.lookup 9 = some (.iload_n 2, 1) := by decide +kernel
theorem ks_10 : gk_136.lookup 10 = some (.irem, 1) := by decide +kernel
theorem ks_11 : gk_136.lookup 11 = some (.istore 4, 2) := by decide +kernel
theorem ks_13 : gk_136.lookup 13 = some (.iload_n 2, 1) := by decide +kernel
theorem ks_14 : gk_136.lookup 14 = some (.ifCond .ne 7, 3) := by decide +kernel
theorem ks_17 : gk_136.lookup 17 = some (.iconst 0, 1) := by decide +kernel
theorem ks_18 : gk_136.lookup 18 = some (.goto 9, 3) := by decide +kernel
theorem ks_21 : gk_136.lookup 21 = some (.iload_n 3, 1) := by decide +kernel
theorem ks_22 : gk_136.lookup 22 = some (.bipush 14, 2) := by decide +kernel
theorem ks_24 : gk_136.lookup 24 = some (.idiv, 1) := by decide +kernel
theorem ks_25 : gk_136.lookup 25 = some (.iload_n 2, 1) := by decide +kernel
theorem ks_26 : gk_136.lookup 26 = some (.irem, 1) := by decide +kernel
theorem ks_27 : gk_136.lookup 27 = some (.istore 5, 2) := by decide +kernel
theorem ks_29 : gk_136.lookup 29 = some (.iload_n 3, 1) := by decide +kernel
theorem ks_30 : gk_136.lookup 30 = some (.sipush 196, 3) := by decide +kernel
theorem ks_33 : gk_136.lookup 33 = some (.idiv, 1) := by decide +kernel
theorem ks_34 : gk_136.lookup 34 = some (.bipush 12, 2) := by decide +kernel
theorem ks_36 : gk_136.lookup 36 = some (.irem, 1) := by decide +kernel
theorem ks_37 : gk_136.lookup 37 = some (.istore 6, 2) := by decide +kernel
theorem ks_39 : gk_136.lookup 39 = some (.iload_n 3, 1) := by decide +kernel
theorem ks_40 : gk_136.lookup 40 = some (.bipush 7, 2) := by decide +kernel
theorem ks_42 : gk_136.lookup 42 = some (.idiv, 1) := by decide +kernel
theorem ks_43 : gk_136.lookup 43 = some (.bipush 60, 2) := by decide +kernel
theorem ks_45 : gk_136.lookup 45 = some (.irem, 1) := by decide +kernel
theorem ks_46 : gk_136.lookup 46 = some (.istore 7, 2) := by decide +kernel
theorem ks_48 : gk_136.lookup 48 = some (.aload_n 1, 1) := by decide +kernel
theorem ks_49 : gk_136.lookup 49 = some (.invokevirtual 108, 3) := by decide +kernel
theorem ks_52 : gk_136.lookup 52 = some (.iconst 2, 1) := by decide +kernel
theorem ks_53 : gk_136.lookup 53 = some (.aload_n 0, 1) := by decide +kernel
theorem ks_54 : gk_136.lookup 54 = some (.invokevirtual 108, 3) := by decide +kernel
theorem ks_57 : gk_136.lookup 57 = some (.imul, 1) := by decide +kernel
theorem ks_58 : gk_136.lookup 58 = some (.if_icmp .ne 76, 3) := by decide +kernel
theorem ks_61 : gk_136.lookup 61 = some (.aload_n 0, 1) := by decide +kernel
theorem ks_62 : gk_136.lookup 62 = some (.invokevirtual 112, 3) := by decide +kernel
theorem ks_65 : gk_136.lookup 65 = some (.aload_n 1, 1) := by decide +kernel
theorem ks_66 : gk_136.lookup 66 = some (.invokevirtual 112, 3) := by decide +kernel
theorem ks_69 : gk_136.lookup 69 = some (.if_icmp .ne 65, 3) := by decide +kernel
theorem ks_72 : gk_136.lookup 72 = some (.aload_n 0, 1) := by decide +kernel
theorem ks_73 : gk_136.lookup 73 = some (.invokevirtual 115, 3) := by decide +kernel
theorem ks_76 : gk_136.lookup 76 = some (.aload_n 1, 1) := by decide +kernel
theorem ks_77 : gk_136.lookup 77 = some (.invokevirtual 115, 3) := by decide +kernel
theorem ks_80 : gk_136.lookup 80 = some (.if_icmp .ne 54, 3) := by decide +kernel
theorem ks_83 : gk_136.lookup 83 = some (.aload_n 0, 1) := by decide +kernel
theorem ks_84 : gk_136.lookup 84 = some (.invokevirtual 118, 3) := by decide +kernel
theorem ks_87 : gk_136.lookup 87 = some (.aload_n 1, 1) := by decide +kernel
theorem ks_88 : gk_136.lookup 88 = some (.invokevirtual 118, 3) := by decide +kernel
theorem ks_91 : gk_136.lookup 91 = some (.if_icmp .ne 43, 3) := by decide +kernel
theorem ks_94 : gk_136.lookup 94 = some (.aload_n 0, 1) := by decide +kernel
theorem ks_95 : gk_136.lookup 95 = some (.iload 7, 2) := by decide +kernel
theorem ks_97 : gk_136.lookup 97 = some (.invokestatic 121, 3) := by decide +kernel
theorem ks_100 : gk_136.lookup 100 = some (.aload_n 1, 1) := by decide +kernel
theorem ks_101 : gk_136.lookup 101 = some (.iload 7, 2) := by decide +kernel
theorem ks_103 : gk_136.lookup 103 = some (.invokestatic 121, 3) := by decide +kernel
theorem ks_106 : gk_136.lookup 106 = some (.if_icmp .ne 28, 3) := by decide +kernel
theorem ks_109 : gk_136.lookup 109 = some (.aload_n 0, 1) := by decide +kernel
theorem ks_110 : gk_136.lookup 110 = some (.iload 4, 2) := by decide +kernel
theorem ks_112 : gk_136.lookup 112 = some (.iload_n 3, 1) := by decide +kernel
theorem ks_113 : gk_136.lookup 113 = some (.iconst 2, 1) := by decide +kernel
theorem ks_114 : gk_136.lookup 114 = some (.irem, 1) := by decide +kernel
theorem ks_115 : gk_136.lookup 115 = some (.invokestatic 127, 3) := by decide +kernel
theorem ks_118 : gk_136.lookup 118 = some (.aload_n 1, 1) := by decide +kernel
theorem ks_119 : gk_136.lookup 119 = some (.iload 4, 2) := by decide +kernel
theorem ks_121 : gk_136.lookup 121 = some (.iload_n 3, 1) := by decide +kernel
theorem ks_122 : gk_136.lookup 122 = some (.iconst 2, 1) := by decide +kernel
theorem ks_123 : gk_136.lookup 123 = some (.irem, 1) := by decide +kernel
theorem ks_124 : gk_136.lookup 124 = some (.invokestatic 127, 3) := by decide +kernel
theorem ks_127 : gk_136.lookup 127 = some (.if_icmp .ne 7, 3) := by decide +kernel
theorem ks_130 : gk_136.lookup 130 = some (.iconst 1, 1) := by decide +kernel
theorem ks_131 : gk_136.lookup 131 = some (.goto 4, 3) := by decide +kernel
theorem ks_134 : gk_136.lookup 134 = some (.iconst 0, 1) := by decide +kernel
theorem ks_135 : gk_136.lookup 135 = some (.istore 8, 2) := by decide +kernel
theorem ks_137 : gk_136.lookup 137 = some (.iconst 0, 1) := by decide +kernel
theorem ks_138 : gk_136.lookup 138 = some (.istore 9, 2) := by decide +kernel
theorem ks_140 : gk_136.lookup 140 = some (.iload 9, 2) := by decide +kernel
theorem ks_142 : gk_136.lookup 142 = some (.bipush 11, 2) := by decide +kernel
theorem ks_144 : gk_136.lookup 144 = some (.if_icmp .ge 68, 3) := by decide +kernel
theorem ks_147 : gk_136.lookup 147 = some (.iload 8, 2) := by decide +kernel
theorem ks_149 : gk_136.lookup 149 = some (.ifCond .eq 63, 3) := by decide +kernel
theorem ks_152 : gk_136.lookup 152 = some (.iload 9, 2) := by decide +kernel
theorem ks_154 : gk_136.lookup 154 = some (.bipush 8, 2) := by decide +kernel
theorem ks_156 : gk_136.lookup 156 = some (.if_icmp .ge 8, 3) := by decide +kernel
theorem ks_159 : gk_136.lookup 159 = some (.iload 4, 2) := by decide +kernel
theorem ks_161 : gk_136.lookup 161 = some (.goto 17, 3) := by decide +kernel
theorem ks_164 : gk_136.lookup 164 = some (.iload 9, 2) := by decide +kernel
theorem ks_166 : gk_136.lookup 166 = some (.bipush 8, 2) := by decide +kernel
theorem ks_168 : gk_136.lookup 168 = some (.if_icmp .ne 8, 3) := by decide +kernel
theorem ks_171 : gk_136.lookup 171 = some (.iload 6, 2) := by decide +kernel
theorem ks_173 : gk_136.lookup 173 = some (.goto 5, 3) := by decide +kernel
theorem ks_176 : gk_136.lookup 176 = some (.iload 7, 2) := by decide +kernel
theorem ks_178 : gk_136.lookup 178 = some (.istore 10, 2) := by decide +kernel
theorem ks_180 : gk_136.lookup 180 = some (.aload_n 0, 1) := by decide +kernel
theorem ks_181 : gk_136.lookup 181 = some (.iload 9, 2) := by decide +kernel
theorem ks_183 : gk_136.lookup 183 = some (.iload 10, 2) := by decide +kernel
theorem ks_185 : gk_136.lookup 185 = some (.invokestatic 131, 3) := by decide +kernel
theorem ks_188 : gk_136.lookup 188 = some (.aload_n 1, 1) := by decide +kernel
theorem ks_189 : gk_136.lookup 189 = some (.iload 9, 2) := by decide +kernel
theorem ks_191 : gk_136.lookup 191 = some (.iload 10, 2) := by decide +kernel
theorem ks_193 : gk_136.lookup 193 = some (.invokestatic 131, 3) := by decide +kernel
theorem ks_196 : gk_136.lookup 196 = some (.if_icmp .ne 7, 3) := by decide +kernel
theorem ks_199 : gk_136.lookup 199 = some (.iconst 1, 1) := by decide +kernel
theorem ks_200 : gk_136.lookup 200 = some (.goto 4, 3) := by decide +kernel
theorem ks_203 : gk_136.lookup 203 = some (.iconst 0, 1) := by decide +kernel
theorem ks_204 : gk_136.lookup 204 = some (.istore 8, 2) := by decide +kernel
theorem ks_206 : gk_136.lookup 206 = some (.iinc 9 1, 3) := by decide +kernel
theorem ks_209 : gk_136.lookup 209 = some (.goto (-69), 3) := by decide +kernel
theorem ks_212 : gk_136.lookup 212 = some (.iconst 0, 1) := by decide +kernel
theorem ks_213 : gk_136.lookup 213 = some (.istore 9, 2) := by decide +kernel
theorem ks_215 : gk_136.lookup 215 = some (.iload 9, 2) := by decide +kernel
theorem ks_217 : gk_136.lookup 217 = some (.iconst 3, 1) := by decide +kernel
theorem ks_218 : gk_136.lookup 218 = some (.if_icmp .ge 45, 3) := by decide +kernel
theorem ks_221 : gk_136.lookup 221 = some (.iload 8, 2) := by decide +kernel
theorem ks_223 : gk_136.lookup 223 = some (.ifCond .eq 40, 3) := by decide +kernel
theorem ks_226 : gk_136.lookup 226 = some (.aload_n 0, 1) := by decide +kernel
theorem ks_227 : gk_136.lookup 227 = some (.iload 9, 2) := by decide +kernel
theorem ks_229 : gk_136.lookup 229 = some (.iload 4, 2) := by decide +kernel
theorem ks_231 : gk_136.lookup 231 = some (.iload 5, 2) := by decide +kernel
theorem ks_233 : gk_136.lookup 233 = some (.invokestatic 134, 3) := by decide +kernel
theorem ks_236 : gk_136.lookup 236 = some (.aload_n 1, 1) := by decide +kernel
theorem ks_237 : gk_136.lookup 237 = some (.iload 9, 2) := by decide +kernel
theorem ks_239 : gk_136.lookup 239 = some (.iload 4, 2) := by decide +kernel
theorem ks_241 : gk_136.lookup 241 = some (.iload 5, 2) := by decide +kernel
theorem ks_243 : gk_136.lookup 243 = some (.invokestatic 134, 3) := by decide +kernel
theorem ks_246 : gk_136.lookup 246 = some (.lcmp, 1) := by decide +kernel
theorem ks_247 : gk_136.lookup 247 = some (.ifCond .ne 7, 3) := by decide +kernel
theorem ks_250 : gk_136.lookup 250 = some (.iconst 1, 1) := by decide +kernel
theorem ks_251 : gk_136.lookup 251 = some (.goto 4, 3) := by decide +kernel
theorem ks_254 : gk_136.lookup 254 = some (.iconst 0, 1) := by decide +kernel
theorem ks_255 : gk_136.lookup 255 = some (.istore 8, 2) := by decide +kernel
theorem ks_257 : gk_136.lookup 257 = some (.iinc 9 1, 3) := by decide +kernel
theorem ks_260 : gk_136.lookup 260 = some (.goto (-45), 3) := by decide +kernel
theorem ks_263 : gk_136.lookup 263 = some (.iload 8, 2) := by decide +kernel
theorem ks_265 : gk_136.lookup 265 = some (.ireturn, 1) := by decide +kernel
section SM
variable {q0 : gh_C} {Q : gb_S → gb_S → Prop} {b c : Nat} {lo : gh_L} {σ : gb_S}
def cS : Nat → Nat → List Value → gh_H → Option (gh_O × gh_H) := fun N => gh_cl true N 100
theorem hCf (N μ : Nat) (as : List Value) (G : gh_H) (_ : μ ≠ 136) : cS N μ as G = gh_cl true N 100 μ as G := rfl
theorem pj_135 {x : Int} (h0 : -2147483648 ≤ x ∧ x ≤ 2147483647) (hc : c ≤ 1000) (hJ : jJV c σ) : jPP c (fy_135 x) (fy_135 x) jRI σ := by
  obtain ⟨⟨n, nb, nd, P, ps, De, Cf, hi⟩, hD⟩ := hJ
  exact pp_135 h0 hc hi hD
theorem pj_134 {x : Int} {y : Int} (h0 : -2147483648 ≤ x ∧ x ≤ 2147483647) (h1 : -2147483648 ≤ y ∧ y ≤ 2147483647) (hc : c ≤ 1000) (hJ : jJV c σ) : jPP c (fy_134 x y) (fy_134 x y) jRI σ := by
  obtain ⟨⟨n, nb, nd, P, ps, De, Cf, hi⟩, hD⟩ := hJ
  exact pp_134 h0 h1 hc hi hD
theorem pj_133 {i : Int} {x : Int} (hi0 : 0 ≤ i ∧ i < 11) (h0 : -2147483648 ≤ x ∧ x ≤ 2147483647) (hc : c ≤ 1000) (hJ : jJV c σ) : jPP c (fy_133 i x) (fy_133 i x) jRI σ := by
  obtain ⟨⟨n, nb, nd, P, ps, De, Cf, hi⟩, hD⟩ := hJ
  rcases (show i = 0 ∨ i = 1 ∨ i = 2 ∨ i = 3 ∨ i = 4 ∨ i = 5 ∨ i = 6 ∨ i = 7 ∨ i = 8 ∨ i = 9 ∨ i = 10 by omega) with rfl | rfl | rfl | rfl | rfl | rfl | rfl | rfl | rfl | rfl | rfl
  · exact pp_133_0 h0 hc hi hD
  · exact pp_133_1 h0 hc hi hD
  · exact pp_133_2 h0 hc hi hD
  · exact pp_133_3 h0 hc hi hD
  · exact pp_133_4 h0 hc hi hD
  · exact pp_133_5 h0 hc hi hD
  · exact pp_133_6 h0 hc hi hD
  · exact pp_133_7 h0 hc hi hD
  · exact pp_133_8 h0 hc hi hD
  · exact pp_133_9 h0 hc hi hD
  · exact pp_133_10 h0 hc hi hD
theorem pj_132 {i : Int} {x : Int} {y : Int} (hi0 : 0 ≤ i ∧ i < 3) (h0 : -2147483648 ≤ x ∧ x ≤ 2147483647) (h1 : -2147483648 ≤ y ∧ y ≤ 2147483647) (hc : c ≤ 1000) (hJ : jJV c σ) : jPP c (fy_132 i x y) (fy_132 i x y) jRJ σ := by
  obtain ⟨⟨n, nb, nd, P, ps, De, Cf, hi⟩, hD⟩ := hJ
  rcases (show i = 0 ∨ i = 1 ∨ i = 2 by omega) with rfl | rfl | rfl
  · exact pp_132_0 h0 h1 hc hi hD
  · exact pp_132_1 h0 h1 hc hi hD
  · exact pp_132_2 h0 h1 hc hi hD
theorem sm_end (l8 : lo.lookup 8 = some (vi 1)) (h : Q σ (dbl σ)) : yq cS gk_136 q0 Q b 263 lo [] σ (dbl σ) := by
  refine yq_il 265 8 ks_263 rfl l8 ?_
  exact yq_ret ks_265 h
/-- the shares -/
theorem sm_215 {pe ot : Int} (hpe : 0 ≤ pe ∧ pe ≤ 2147483647) (hot : 0 ≤ ot ∧ ot ≤ 2147483647) : ∀ (m i c : Nat) (lo : gh_L) (σ : gb_S), i + m = 3 → lo.lookup 0 = some (Value.ref 1) → lo.lookup 1 = some (Value.ref 187) → lo.lookup 4 = some (vi pe) → lo.lookup 5 = some (vi ot) → lo.lookup 8 = some (vi 1) → lo.lookup 9 = some (vi (i : Int)) → c + m ≤ 1000 → jJV c σ → (∀ σ', jJV (c + m) σ' → σ' 1 9 = σ 1 9 → Q σ' (dbl σ')) → yq cS gk_136 q0 Q (2 * m) 215 lo [] σ (dbl σ) := by
  intro m
  induction m with
  | zero =>
    intro i c lo σ hm l0 l1 l4 l5 l8 l9 hc hJ hQ
    refine yq_il 217 9 ks_215 rfl l9 ?_
    refine yq_ci 3 218 ks_217 rfl ?_
    refine yq_if 263 221 ks_218 rfl rfl rfl (by unfold gb_R; omega) (by unfold gb_R; omega) (fun _ => ?_) (fun h9 => absurd (show 3 ≤ ((i : Int) : Int) by omega) h9)
    exact sm_end l8 (hQ σ hJ rfl)
  | succ m ih =>
    intro i c lo σ hm l0 l1 l4 l5 l8 l9 hc hJ hQ
    refine yq_b (b := 2 * m + 2) (by omega) ?_
    refine yq_il 217 9 ks_215 rfl l9 ?_
    refine yq_ci 3 218 ks_217 rfl ?_
    refine yq_if 263 221 ks_218 rfl rfl rfl (by unfold gb_R; omega) (by unfold gb_R; omega) (fun h9 => absurd h9 (show ¬ (3 ≤ ((i : Int) : Int)) by omega)) (fun _ => ?_)
    refine yq_il 223 8 ks_221 rfl l8 ?_
    refine yq_if0 263 226 ks_223 rfl rfl rfl (by unfold gb_R; omega) (fun h9 => absurd h9 (show ¬ ((1 : Int) = 0) by omega)) (fun _ => ?_)
    obtain ⟨v1, w1, s1, t1, σ1, ea1, eb1, hr1, hW1, hJ1, h91⟩ := pj_132 (i := (i : Int)) (x := pe) (y := ot) (by omega) (by omega) (by omega) (by omega) hJ
    obtain rfl : v1 = w1 := hr1
    refine yq_al 227 0 ks_226 rfl l0 ?_
    refine yq_il 229 9 ks_227 rfl l9 ?_
    refine yq_il 231 4 ks_229 rfl l4 ?_
    refine yq_il 233 5 ks_231 rfl l5 ?_
    refine yq_ca (x := v1) 236 (2 * m + 1) hCf (by decide) ks_233 (gm_132 _ _ _) rfl (zs_ss rfl rfl rfl rfl rfl rfl rfl) ea1 rfl (by show 1 + (2 * m + 1) = 2 * m + 2; omega) rfl ?_
    refine yq_al 237 1 ks_236 rfl l1 ?_
    refine yq_il 239 9 ks_237 rfl l9 ?_
    refine yq_il 241 4 ks_239 rfl l4 ?_
    refine yq_il 243 5 ks_241 rfl l5 ?_
    refine yq_cb (x := v1) 246 (2 * m + 0) hCf (by decide) ks_243 (gm_132 _ _ _) rfl (zs_ss rfl rfl rfl rfl rfl rfl rfl) eb1 rfl (by show 1 + (2 * m + 0) = 2 * m + 1; omega) rfl ?_
    refine yq_W (fun a h => (hW1 a h).1) (fun a h => (hW1 a h).2) ?_
    refine yq_lc 247 ks_246 rfl ?_
    refine yq_if0 254 250 ks_247 rfl rfl rfl (by unfold gb_R; omega) (fun h9 => absurd h9 (show ¬ (¬ (0 : Int) = 0) by omega)) (fun _ => ?_)
    refine yq_ci 1 251 ks_250 rfl ?_
    refine yq_go 255 ks_251 rfl rfl ?_
    refine yq_s 257 ks_255 rfl ?_
    refine yq_inc 260 ks_257 rfl (gl1 rfl rfl l9) ?_
    refine yq_go 215 ks_260 rfl rfl ?_
    refine yq_b (b := 2 * m) (by omega) ?_
    exact ih (i + 1) (c + 1) _ σ1 (by omega) (gl1 rfl rfl (gl1 rfl rfl l0)) (gl1 rfl rfl (gl1 rfl rfl l1)) (gl1 rfl rfl (gl1 rfl rfl l4)) (gl1 rfl rfl (gl1 rfl rfl l5)) (gl1 rfl rfl gs1) gs1 (by omega) hJ1 (fun σ' h1 h2 => hQ σ' (by rw [show c + (m + 1) = c + 1 + m by omega]; exact h1) (h2.trans h91))
/-- the questions -/
theorem sm_140 {pe ot pr un : Int} (hpe : 0 ≤ pe ∧ pe ≤ 2147483647) (hot : 0 ≤ ot ∧ ot ≤ 2147483647) (hpr : 0 ≤ pr ∧ pr ≤ 2147483647) (hun : 0 ≤ un ∧ un ≤ 2147483647) : ∀ (m i c : Nat) (lo : gh_L) (σ : gb_S), i + m = 11 → lo.lookup 0 = some (Value.ref 1) → lo.lookup 1 = some (Value.ref 187) → lo.lookup 4 = some (vi pe) → lo.lookup 5 = some (vi ot) → lo.lookup 6 = some (vi pr) → lo.lookup 7 = some (vi un) → lo.lookup 8 = some (vi 1) → lo.lookup 9 = some (vi (i : Int)) → c + m + 3 ≤ 1000 → jJV c σ → (∀ σ', jJV (c + m + 3) σ' → σ' 1 9 = σ 1 9 → Q σ' (dbl σ')) → yq cS gk_136 q0 Q (2 * m + 6) 140 lo [] σ (dbl σ) := by
  intro m
  induction m with
  | zero =>
    intro i c lo σ hm l0 l1 l4 l5 l6 l7 l8 l9 hc hJ hQ
    refine yq_il 142 9 ks_140 rfl l9 ?_
    refine yq_ci 11 144 ks_142 rfl ?_
    refine yq_if 212 147 ks_144 rfl rfl rfl (by unfold gb_R; omega) (by unfold gb_R; omega) (fun _ => ?_) (fun h9 => absurd (show 11 ≤ ((i : Int) : Int) by omega) h9)
    refine yq_ci 0 213 ks_212 rfl ?_
    refine yq_s 215 ks_213 rfl ?_
    exact sm_215 hpe hot 3 0 c _ σ (by omega) (gl1 rfl rfl l0) (gl1 rfl rfl l1) (gl1 rfl rfl l4) (gl1 rfl rfl l5) (gl1 rfl rfl l8) gs1 (by omega) hJ (fun σ' h1 h2 => hQ σ' h1 h2)
  | succ m ih =>
    intro i c lo σ hm l0 l1 l4 l5 l6 l7 l8 l9 hc hJ hQ
    refine yq_b (b := 2 * m + 8) (by omega) ?_
    have tail : ∀ wh : Int, 0 ≤ wh ∧ wh ≤ 2147483647 → yq cS gk_136 q0 Q (2 * m + 8) 178 lo [vi wh] σ (dbl σ) := by
      intro wh hwh
      refine yq_s 180 ks_178 rfl ?_
      obtain ⟨v1, w1, s1, t1, σ1, ea1, eb1, hr1, hW1, hJ1, h91⟩ := pj_133 (i := (i : Int)) (x := wh) (by omega) (by omega) (by omega) hJ
      obtain ⟨rfl, hv1⟩ := hr1
      refine yq_al 181 0 ks_180 rfl (gl1 rfl rfl l0) ?_
      refine yq_il 183 9 ks_181 rfl (gl1 rfl rfl l9) ?_
      refine yq_il 185 10 ks_183 rfl gs1 ?_
      refine yq_ca (x := v1) 188 (2 * m + 7) hCf (by decide) ks_185 (gm_133 _ _) rfl (zs_ss rfl rfl rfl rfl rfl rfl rfl) ea1 rfl (by show 1 + (2 * m + 7) = 2 * m + 8; omega) rfl ?_
      refine yq_al 189 1 ks_188 rfl (gl1 rfl rfl l1) ?_
      refine yq_il 191 9 ks_189 rfl (gl1 rfl rfl l9) ?_
      refine yq_il 193 10 ks_191 rfl gs1 ?_
      refine yq_cb (x := v1) 196 (2 * m + 6) hCf (by decide) ks_193 (gm_133 _ _) rfl (zs_ss rfl rfl rfl rfl rfl rfl rfl) eb1 rfl (by show 1 + (2 * m + 6) = 2 * m + 7; omega) rfl ?_
      refine yq_W (fun a h => (hW1 a h).1) (fun a h => (hW1 a h).2) ?_
      refine yq_ne 199 ks_196 rfl rfl ?_
      refine yq_ci 1 200 ks_199 rfl ?_
      refine yq_go 204 ks_200 rfl rfl ?_
      refine yq_s 206 ks_204 rfl ?_
      refine yq_inc 209 ks_206 rfl (gl1 rfl rfl (gl1 rfl rfl l9)) ?_
      refine yq_go 140 ks_209 rfl rfl ?_
      exact ih (i + 1) (c + 1) _ σ1 (by omega) (gl1 rfl rfl (gl1 rfl rfl (gl1 rfl rfl l0))) (gl1 rfl rfl (gl1 rfl rfl (gl1 rfl rfl l1))) (gl1 rfl rfl (gl1 rfl rfl (gl1 rfl rfl l4))) (gl1 rfl rfl (gl1 rfl rfl (gl1 rfl rfl l5))) (gl1 rfl rfl (gl1 rfl rfl (gl1 rfl rfl l6))) (gl1 rfl rfl (gl1 rfl rfl (gl1 rfl rfl l7))) (gl1 rfl rfl gs1) gs1 (by omega) hJ1 (fun σ' h1 h2 => hQ σ' (by rw [show c + (m + 1) + 3 = c + 1 + m + 3 by omega]; exact h1) (h2.trans h91))
    by_cases h1 : (i : Int) < 8
    · have h1 := h1
      refine yq_il 142 9 ks_140 rfl l9 ?_
      refine yq_ci 11 144 ks_142 rfl ?_
      refine yq_if 212 147 ks_144 rfl rfl rfl (by unfold gb_R; omega) (by unfold gb_R; omega) (fun h9 => absurd h9 (show ¬ (11 ≤ ((i : Int) : Int)) by omega)) (fun _ => ?_)
      refine yq_il 149 8 ks_147 rfl l8 ?_
      refine yq_if0 212 152 ks_149 rfl rfl rfl (by unfold gb_R; omega) (fun h9 => absurd h9 (show ¬ ((1 : Int) = 0) by omega)) (fun _ => ?_)
      refine yq_il 154 9 ks_152 rfl l9 ?_
      refine yq_ci 8 156 ks_154 rfl ?_
      refine yq_if 164 159 ks_156 rfl rfl rfl (by unfold gb_R; omega) (by unfold gb_R; omega) (fun h9 => absurd h9 (show ¬ (8 ≤ ((i : Int) : Int)) by omega)) (fun _ => ?_)
      refine yq_il 161 4 ks_159 rfl l4 ?_
      refine yq_go 178 ks_161 rfl rfl ?_
      exact tail pe hpe
    · by_cases h2 : (i : Int) = 8
      · have h2 := h2
        refine yq_il 142 9 ks_140 rfl l9 ?_
        refine yq_ci 11 144 ks_142 rfl ?_
        refine yq_if 212 147 ks_144 rfl rfl rfl (by unfold gb_R; omega) (by unfold gb_R; omega) (fun h9 => absurd h9 (show ¬ (11 ≤ ((i : Int) : Int)) by omega)) (fun _ => ?_)
        refine yq_il 149 8 ks_147 rfl l8 ?_
        refine yq_if0 212 152 ks_149 rfl rfl rfl (by unfold gb_R; omega) (fun h9 => absurd h9 (show ¬ ((1 : Int) = 0) by omega)) (fun _ => ?_)
        refine yq_il 154 9 ks_152 rfl l9 ?_
        refine yq_ci 8 156 ks_154 rfl ?_
        refine yq_if 164 159 ks_156 rfl rfl rfl (by unfold gb_R; omega) (by unfold gb_R; omega) (fun _ => ?_) (fun h9 => absurd (show 8 ≤ ((i : Int) : Int) by omega) h9)
        refine yq_il 166 9 ks_164 rfl l9 ?_
        refine yq_ci 8 168 ks_166 rfl ?_
        refine yq_if 176 171 ks_168 rfl rfl rfl (by unfold gb_R; omega) (by unfold gb_R; omega) (fun h9 => absurd h9 (show ¬ (¬ ((i : Int) : Int) = 8) by omega)) (fun _ => ?_)
        refine yq_il 173 6 ks_171 rfl l6 ?_
        refine yq_go 178 ks_173 rfl rfl ?_
        exact tail pr hpr
      · have h2 := h2
        refine yq_il 142 9 ks_140 rfl l9 ?_
        refine yq_ci 11 144 ks_142 rfl ?_
        refine yq_if 212 147 ks_144 rfl rfl rfl (by unfold gb_R; omega) (by unfold gb_R; omega) (fun h9 => absurd h9 (show ¬ (11 ≤ ((i : Int) : Int)) by omega)) (fun _ => ?_)
        refine yq_il 149 8 ks_147 rfl l8 ?_
        refine yq_if0 212 152 ks_149 rfl rfl rfl (by unfold gb_R; omega) (fun h9 => absurd h9 (show ¬ ((1 : Int) = 0) by omega)) (fun _ => ?_)
        refine yq_il 154 9 ks_152 rfl l9 ?_
        refine yq_ci 8 156 ks_154 rfl ?_
        refine yq_if 164 159 ks_156 rfl rfl rfl (by unfold gb_R; omega) (by unfold gb_R; omega) (fun _ => ?_) (fun h9 => absurd (show 8 ≤ ((i : Int) : Int) by omega) h9)
        refine yq_il 166 9 ks_164 rfl l9 ?_
        refine yq_ci 8 168 ks_166 rfl ?_
        refine yq_if 176 171 ks_168 rfl rfl rfl (by unfold gb_R; omega) (by unfold gb_R; omega) (fun _ => ?_) (fun h9 => absurd (show ¬ ((i : Int) : Int) = 8 by omega) h9)
        refine yq_il 178 7 ks_176 rfl l7 ?_
        exact tail un hun
/-- behind the places -/
theorem sm_27 {pe ot z : Int} (hpe : 0 ≤ pe ∧ pe ≤ 2147483647) (hot : 0 ≤ ot ∧ ot ≤ 2147483647) (hz : 0 ≤ z ∧ z ≤ 2147483647) (l0 : lo.lookup 0 = some (Value.ref 1)) (l1 : lo.lookup 1 = some (Value.ref 187)) (l3 : lo.lookup 3 = some (vi z)) (l4 : lo.lookup 4 = some (vi pe)) (hc : c + 16 ≤ 1000) (hJ : jJV c σ) (hQ : ∀ σ', jJV (c + 16) σ' → σ' 1 9 = σ 1 9 → Q σ' (dbl σ')) : yq cS gk_136 q0 Q 32 27 lo [vi ot] σ (dbl σ) := by
  obtain ⟨⟨n, nb, nd, P, ps, De, Cf, hi⟩, hD⟩ := id hJ
  obtain ⟨vd, ed, -⟩ := qc10 hi
  obtain ⟨vp, ep, -⟩ := qc29 hi
  have edb := (jpubs (fun c η H ρ => jm_89 H ρ) hD ed).1
  have epb := (jpubs (fun c η H ρ => jm_108 H ρ) hD ep).1
  refine yq_s 29 ks_27 rfl ?_
  refine yq_il 30 3 ks_29 rfl (gl1 rfl rfl l3) ?_
  refine yq_ci 196 33 ks_30 rfl ?_
  refine yq_div 34 ks_33 rfl (by omega) (by omega) ?_
  refine yq_ci 12 36 ks_34 rfl ?_
  refine yq_rem 37 ks_36 rfl (by omega) (by omega) ?_
  have hpr : 0 ≤ ((z / 196) % 12) ∧ ((z / 196) % 12) < 12 := by omega
  generalize hpr0 : ((z / 196) % 12) = pr at hpr ⊢
  refine yq_s 39 ks_37 rfl ?_
  refine yq_il 40 3 ks_39 rfl (gl1 rfl rfl (gl1 rfl rfl l3)) ?_
  refine yq_ci 7 42 ks_40 rfl ?_
  refine yq_div 43 ks_42 rfl (by omega) (by omega) ?_
  refine yq_ci 60 45 ks_43 rfl ?_
  refine yq_rem 46 ks_45 rfl (by omega) (by omega) ?_
  have hun : 0 ≤ ((z / 7) % 60) ∧ ((z / 7) % 60) < 60 := by omega
  generalize hun0 : ((z / 7) % 60) = un at hun ⊢
  refine yq_s 48 ks_46 rfl ?_
  refine yq_al 49 1 ks_48 rfl (gl1 rfl rfl (gl1 rfl rfl (gl1 rfl rfl l1))) ?_
  refine yq_cb (x := (2 * σ 1 9)) 52 (32) hCf (by decide) ks_49 (gm_80) rfl (zs_v rfl rfl (at_b _ _ _) rfl) rfl rfl (by show 0 + (32) = 32; omega) rfl ?_
  refine yq_ci 2 53 ks_52 rfl ?_
  refine yq_al 54 0 ks_53 rfl (gl1 rfl rfl (gl1 rfl rfl (gl1 rfl rfl l0))) ?_
  refine yq_ca (x := σ 1 9) 57 (32) hCf (by decide) ks_54 (gm_80) rfl (zs_v rfl rfl (at_a _ _ _) rfl) rfl rfl (by show 0 + (32) = 32; omega) rfl ?_
  refine yq_mul 58 ks_57 rfl ?_
  refine yq_ne 61 ks_58 rfl rfl ?_
  refine yq_al 62 0 ks_61 rfl (gl1 rfl rfl (gl1 rfl rfl (gl1 rfl rfl l0))) ?_
  refine yq_ca (x := σ 2 3) 65 (32) hCf (by decide) ks_62 (gm_83) rfl (zs_v rfl rfl (at_a _ _ _) rfl) rfl rfl (by show 0 + (32) = 32; omega) rfl ?_
  refine yq_al 66 1 ks_65 rfl (gl1 rfl rfl (gl1 rfl rfl (gl1 rfl rfl l1))) ?_
  refine yq_cb (x := σ 2 3) 69 (32) hCf (by decide) ks_66 (gm_83) rfl (zs_v rfl rfl (at_b _ _ _) rfl) (by show some (Sum.inl (dbl σ 2 3), dbl σ) = _; rw [dbl_rd σ (Or.inl rfl)]) rfl (by show 0 + (32) = 32; omega) rfl ?_
  refine yq_ne 72 ks_69 rfl rfl ?_
  refine yq_al 73 0 ks_72 rfl (gl1 rfl rfl (gl1 rfl rfl (gl1 rfl rfl l0))) ?_
  refine yq_ca (x := vd) 76 (32) hCf (by decide) ks_73 (gm_89) rfl (zs_v rfl rfl (at_a _ _ _) rfl) ed rfl (by show 0 + (32) = 32; omega) rfl ?_
  refine yq_al 77 1 ks_76 rfl (gl1 rfl rfl (gl1 rfl rfl (gl1 rfl rfl l1))) ?_
  refine yq_cb (x := vd) 80 (32) hCf (by decide) ks_77 (gm_89) rfl (zs_v rfl rfl (at_b _ _ _) rfl) edb rfl (by show 0 + (32) = 32; omega) rfl ?_
  refine yq_ne 83 ks_80 rfl rfl ?_
  refine yq_al 84 0 ks_83 rfl (gl1 rfl rfl (gl1 rfl rfl (gl1 rfl rfl l0))) ?_
  refine yq_ca (x := vp) 87 (32) hCf (by decide) ks_84 (gm_108) rfl (zs_v rfl rfl (at_a _ _ _) rfl) ep rfl (by show 0 + (32) = 32; omega) rfl ?_
  refine yq_al 88 1 ks_87 rfl (gl1 rfl rfl (gl1 rfl rfl (gl1 rfl rfl l1))) ?_
  refine yq_cb (x := vp) 91 (32) hCf (by decide) ks_88 (gm_108) rfl (zs_v rfl rfl (at_b _ _ _) rfl) epb rfl (by show 0 + (32) = 32; omega) rfl ?_
  refine yq_ne 94 ks_91 rfl rfl ?_
  obtain ⟨v1, w1, s1, t1, σ1, ea1, eb1, hr1, hW1, hJ1, h91⟩ := pj_135 (x := un) (by omega) (by omega) hJ
  obtain ⟨rfl, hv1⟩ := hr1
  refine yq_al 95 0 ks_94 rfl (gl1 rfl rfl (gl1 rfl rfl (gl1 rfl rfl l0))) ?_
  refine yq_il 97 7 ks_95 rfl gs1 ?_
  refine yq_ca (x := v1) 100 (31) hCf (by decide) ks_97 (gm_135 _) rfl (zs_ss rfl rfl rfl rfl rfl rfl rfl) ea1 rfl (by show 1 + (31) = 32; omega) rfl ?_
  refine yq_al 101 1 ks_100 rfl (gl1 rfl rfl (gl1 rfl rfl (gl1 rfl rfl l1))) ?_
  refine yq_il 103 7 ks_101 rfl gs1 ?_
  refine yq_cb (x := v1) 106 (30) hCf (by decide) ks_103 (gm_135 _) rfl (zs_ss rfl rfl rfl rfl rfl rfl rfl) eb1 rfl (by show 1 + (30) = 31; omega) rfl ?_
  refine yq_W (fun a h => (hW1 a h).1) (fun a h => (hW1 a h).2) ?_
  refine yq_ne 109 ks_106 rfl rfl ?_
  obtain ⟨v2, w2, s2, t2, σ2, ea2, eb2, hr2, hW2, hJ2, h92⟩ := pj_134 (σ := σ1) (x := pe) (y := z % 2) (by omega) (by omega) (by omega) hJ1
  obtain ⟨rfl, hv2⟩ := hr2
  refine yq_al 110 0 ks_109 rfl (gl1 rfl rfl (gl1 rfl rfl (gl1 rfl rfl l0))) ?_
  refine yq_il 112 4 ks_110 rfl (gl1 rfl rfl (gl1 rfl rfl (gl1 rfl rfl l4))) ?_
  refine yq_il 113 3 ks_112 rfl (gl1 rfl rfl (gl1 rfl rfl (gl1 rfl rfl l3))) ?_
  refine yq_ci 2 114 ks_113 rfl ?_
  refine yq_rem 115 ks_114 rfl (by omega) (by omega) ?_
  refine yq_ca (x := v2) 118 (29) hCf (by decide) ks_115 (gm_134 _ _) rfl (zs_ss rfl rfl rfl rfl rfl rfl rfl) ea2 rfl (by show 1 + (29) = 30; omega) rfl ?_
  refine yq_al 119 1 ks_118 rfl (gl1 rfl rfl (gl1 rfl rfl (gl1 rfl rfl l1))) ?_
  refine yq_il 121 4 ks_119 rfl (gl1 rfl rfl (gl1 rfl rfl (gl1 rfl rfl l4))) ?_
  refine yq_il 122 3 ks_121 rfl (gl1 rfl rfl (gl1 rfl rfl (gl1 rfl rfl l3))) ?_
  refine yq_ci 2 123 ks_122 rfl ?_
  refine yq_rem 124 ks_123 rfl (by omega) (by omega) ?_
  refine yq_cb (x := v2) 127 (28) hCf (by decide) ks_124 (gm_134 _ _) rfl (zs_ss rfl rfl rfl rfl rfl rfl rfl) eb2 rfl (by show 1 + (28) = 29; omega) rfl ?_
  refine yq_W (fun a h => (hW2 a h).1) (fun a h => (hW2 a h).2) ?_
  refine yq_ne 130 ks_127 rfl rfl ?_
  refine yq_ci 1 131 ks_130 rfl ?_
  refine yq_go 135 ks_131 rfl rfl ?_
  refine yq_s 137 ks_135 rfl ?_
  refine yq_ci 0 138 ks_137 rfl ?_
  refine yq_s 140 ks_138 rfl ?_
  exact sm_140 hpe hot (by omega) (by omega) 11 0 (c + 1 + 1) _ σ2 (by omega) (gl1 rfl rfl (gl1 rfl rfl (gl1 rfl rfl (gl1 rfl rfl (gl1 rfl rfl l0))))) (gl1 rfl rfl (gl1 rfl rfl (gl1 rfl rfl (gl1 rfl rfl (gl1 rfl rfl l1))))) (gl1 rfl rfl (gl1 rfl rfl (gl1 rfl rfl (gl1 rfl rfl (gl1 rfl rfl l4))))) (gl1 rfl rfl (gl1 rfl rfl (gl1 rfl rfl (gl1 rfl rfl gs1)))) (gl1 rfl rfl (gl1 rfl rfl (gl1 rfl rfl gs1))) (gl1 rfl rfl (gl1 rfl rfl gs1)) (gl1 rfl rfl gs1) gs1 (by omega) hJ2 (fun σ' h1 h2 => hQ σ' (by rw [show c + 16 = c + 1 + 1 + 11 + 3 by omega]; exact h1) (h2.trans (h92.trans h91)))
theorem sm_11 {pe p z : Int} (hpe : 0 ≤ pe ∧ pe ≤ 2147483647) (hp : 0 ≤ p ∧ p ≤ 200) (hz : 0 ≤ z ∧ z ≤ 2147483647) (l0 : lo.lookup 0 = some (Value.ref 1)) (l1 : lo.lookup 1 = some (Value.ref 187)) (l2 : lo.lookup 2 = some (vi p)) (l3 : lo.lookup 3 = some (vi z)) (hc : c + 16 ≤ 1000) (hJ : jJV c σ) (hQ : ∀ σ', jJV (c + 16) σ' → σ' 1 9 = σ 1 9 → Q σ' (dbl σ')) : yq cS gk_136 q0 Q 32 11 lo [vi pe] σ (dbl σ) := by
  by_cases h0 : p = 0
  · have h0 := h0
    refine yq_s 13 ks_11 rfl ?_
    refine yq_il 14 2 ks_13 rfl (gl1 rfl rfl l2) ?_
    refine yq_if0 21 17 ks_14 rfl rfl rfl (by unfold gb_R; omega) (fun h9 => absurd h9 (show ¬ (¬ (p : Int) = 0) by omega)) (fun _ => ?_)
    refine yq_ci 0 18 ks_17 rfl ?_
    refine yq_go 27 ks_18 rfl rfl ?_
    exact sm_27 hpe (by omega) hz (gl1 rfl rfl l0) (gl1 rfl rfl l1) (gl1 rfl rfl l3) gs1 hc hJ hQ
  · have h0 := h0
    refine yq_s 13 ks_11 rfl ?_
    refine yq_il 14 2 ks_13 rfl (gl1 rfl rfl l2) ?_
    refine yq_if0 21 17 ks_14 rfl rfl rfl (by unfold gb_R; omega) (fun _ => ?_) (fun h9 => absurd (show ¬ (p : Int) = 0 by omega) h9)
    refine yq_il 22 3 ks_21 rfl (gl1 rfl rfl l3) ?_
    refine yq_ci 14 24 ks_22 rfl ?_
    refine yq_div 25 ks_24 rfl (by omega) (by omega) ?_
    refine yq_il 26 2 ks_25 rfl (gl1 rfl rfl l2) ?_
    refine yq_rem 27 ks_26 rfl (by omega) (by omega) ?_
    have hot : 0 ≤ ((z / 14) % p) ∧ ((z / 14) % p) < p := ⟨Int.emod_nonneg _ (by omega), Int.emod_lt_of_pos _ (by omega)⟩
    generalize hot0 : ((z / 14) % p) = ot at hot ⊢
    exact sm_27 hpe (by omega) hz (gl1 rfl rfl l0) (gl1 rfl rfl l1) (gl1 rfl rfl l3) gs1 hc hJ hQ
/-- same answers true, and both registers stay alike -/
theorem sm_0 {p z : Int} (hp : 0 ≤ p ∧ p ≤ 200) (hz : 0 ≤ z ∧ z ≤ 2147483647) (l0 : lo.lookup 0 = some (Value.ref 1)) (l1 : lo.lookup 1 = some (Value.ref 187)) (l2 : lo.lookup 2 = some (vi p)) (l3 : lo.lookup 3 = some (vi z)) (hc : c + 16 ≤ 1000) (hJ : jJV c σ) (hQ : ∀ σ', jJV (c + 16) σ' → σ' 1 9 = σ 1 9 → Q σ' (dbl σ')) : yq cS gk_136 q0 Q 32 0 lo [] σ (dbl σ) := by
  by_cases h0 : p = 0
  · have h0 := h0
    refine yq_il 1 2 ks_0 rfl l2 ?_
    refine yq_if0 8 4 ks_1 rfl rfl rfl (by unfold gb_R; omega) (fun h9 => absurd h9 (show ¬ (¬ (p : Int) = 0) by omega)) (fun _ => ?_)
    refine yq_ci 0 5 ks_4 rfl ?_
    refine yq_go 11 ks_5 rfl rfl ?_
    exact sm_11 (by omega) hp hz l0 l1 l2 l3 hc hJ hQ
  · have h0 := h0
    refine yq_il 1 2 ks_0 rfl l2 ?_
    refine yq_if0 8 4 ks_1 rfl rfl rfl (by unfold gb_R; omega) (fun _ => ?_) (fun h9 => absurd (show ¬ (p : Int) = 0 by omega) h9)
    refine yq_il 9 3 ks_8 rfl l3 ?_
    refine yq_il 10 2 ks_9 rfl l2 ?_
    refine yq_rem 11 ks_10 rfl (by omega) (by omega) ?_
    have hpe : 0 ≤ (z % p) ∧ (z % p) < p := ⟨Int.emod_nonneg _ (by omega), Int.emod_lt_of_pos _ (by omega)⟩
    generalize hpe0 : (z % p) = pe at hpe ⊢
    exact sm_11 (by omega) hp hz l0 l1 l2 l3 hc hJ hQ
/-- a call of same -/
theorem sm_call {p z : Int} (hp : 0 ≤ p ∧ p ≤ 200) (hz : 0 ≤ z ∧ z ≤ 2147483647) (hc : c + 16 ≤ 1000) (hJ : jJV c σ) : ∃ (N1 : Nat) (σ' : gb_S), (∀ N, N1 ≤ N → gh_cw N 100 136 [.ref 1, .ref 187, vi p, vi z] (gH2 q0 σ (dbl σ)) = some (.inl (some (vi 1)), gH2 q0 σ' (dbl σ'))) ∧ jJV (c + 16) σ' ∧ σ' 1 9 = σ 1 9 := by
  obtain ⟨N0, σ', τ', h1, h2, h3, h4⟩ := yq_b (b' := 40) (by omega) (sm_0 (q0 := q0) (Q := fun σ' τ' => τ' = dbl σ' ∧ jJV (c + 16) σ' ∧ σ' 1 9 = σ 1 9) (lo := lv_args 0 [.ref 1, .ref 187, vi p, vi z]) hp hz rfl rfl rfl rfl hc hJ (fun σ' h1 h2 => ⟨rfl, h1, h2⟩))
  subst h2
  refine ⟨N0, σ', fun N hN => ?_, h3, h4⟩
  have h5 : gh_sm N 100 [.ref 1, .ref 187, vi p, vi z] (gH2 q0 σ (dbl σ)) = some (some (.int 1), gH2 q0 σ' (dbl σ')) := by
    unfold gh_sm
    rw [if_pos (show gh_cat [.ref 1, .ref 187, vi p, vi z] ≤ 11 from Nat.le_of_ble_eq_true rfl)]
    exact h1 N N hN hN
  unfold gh_cw
  rw [if_pos rfl, h5]
  rfl
end SM
