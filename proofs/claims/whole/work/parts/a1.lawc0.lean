/-- class and reference go together, somehow -/
def JJ (c : Nat) (σ : gb_S) : Prop := ∃ n nb nd P ps De Cf, IV2 c σ n nb nd P ps De Cf
/-- an int read as a boolean -/
theorem zw_nz {c0 : gh_C} {t pc : Nat} {lo : gh_L} {st : List Value} {σ : gb_S} {x : Int} (hx : -2147483648 ≤ x ∧ x ≤ 2147483647) (hk : gk_law.lookup pc = some (.ifCond .eq 7, 3) ∧ gk_law.lookup (pc + 3) = some (.iconst 1, 1) ∧ gk_law.lookup (pc + 4) = some (.goto 4, 3) ∧ gk_law.lookup (pc + 7) = some (.iconst 0, 1)) (h : zw c0 t (pc + 8) lo (vi (ib (!decide (x = 0))) :: st) σ) : zw c0 (t + 3) pc lo (vi x :: st) σ := by
  obtain ⟨k0, k1, k2, k3⟩ := hk
  refine zw_if0 (pc + 7) (pc + 3) k0 (decide_eq_true (by omega)) (by unfold gh_tgt; omega) rfl hx (fun h0 => ?_) (fun h0 => ?_)
  · have h0 : x = 0 := h0
    rw [decide_eq_true h0] at h
    exact zw_t (zw_s (pc + 8) k3 rfl h) (by omega)
  · have h0 : ¬ x = 0 := h0
    rw [decide_eq_false h0] at h
    exact zw_s (pc + 4) k1 rfl (zw_go (pc + 8) k2 (decide_eq_true (by omega)) (by unfold gh_tgt; omega) h)
section LC1
variable {c0 : gh_C} {xs : List Int32} {t c : Nat} {lo : gh_L} {σ : gb_S}
theorem lc_0 (hc0 : c0 = (20, xs.map Value.int)) (hl : xs.length ≤ 2560) (hj : 5 * c + 5 ≤ xs.length) (l : LL lo c) (H : CM rI c (fx_196 (xj xs c 1)) (fx_135 (xj xs c 1)) σ) (cont : ∀ σ2 lo2, JJ (c + 1) σ2 → LL lo2 c → zw c0 t 1959 lo2 [] σ2) : zw c0 (t + 31) 176 lo [] σ := by
  obtain ⟨k, σ1, b, σ2, e1, e2, e3, e4, e5, e6, e7⟩ := H
  refine zw_al (i := .aload_n 1) (len := 1) 177 1 (by decide +kernel) rfl l.2.1 ?_
  refine zw_arg (pc := 177) 1 hc0 hl (by omega) l (by decide +kernel) ?_
  refine zw_al (i := .aload_n 3) (len := 1) 184 3 (by decide +kernel) rfl l.2.2.2.1 ?_
  refine zw_c (i := .invokestatic 109) (len := 3) 187 (by decide +kernel) (gm_196 (xj xs c 1)) rfl (gb_ss rfl rfl rfl rfl rfl rfl rfl) e1 rfl rfl ?_
  refine zw_s (i := .istore 5) (len := 2) (lo' := gh_st1 lo 5 (vi k)) (st' := []) 189 (by decide +kernel) rfl ?_
  have l5 := LL_5 (v := vi k) l
  refine zw_al (i := .aload_n 2) (len := 1) 190 2 (by decide +kernel) rfl l5.2.2.1 ?_
  refine zw_arg (pc := 190) 1 hc0 hl (by omega) l5 (by decide +kernel) ?_
  refine zw_c (i := .invokevirtual 114) (len := 3) 199 (by decide +kernel) (gm_135 (xj xs c 1)) rfl (gb_vs rfl rfl rfl rfl rfl gcl_187 rfl rfl rfl) e2 rfl rfl ?_
  refine zw_s (i := .istore 6) (len := 2) (lo' := gh_st1 (gh_st1 lo 5 (vi k)) 6 (vi b)) (st' := []) 201 (by decide +kernel) rfl ?_
  exact zw_tI (q := 201) (off := 1730) (LL_6 l5) (gl1 rfl rfl gs1) gs1 (by decide +kernel) (by decide +kernel) rfl e3 e4 e5 e6 (cont _ _ e7 (LL_6 l5))
theorem lc_1 (l : LL lo c) {v : Int} {s : gb_S} (e1 : fx_80 σ = some (.inl v, σ)) (hv : gb_R v) (e2 : fx_136 σ = some (.inl v, s)) (hJ : JJ (c + 1) s) (cont : ∀ σ2 lo2, JJ (c + 1) σ2 → LL lo2 c → zw c0 t 1959 lo2 [] σ2) : zw c0 (t + 5) 232 lo [] σ := by
  refine zw_al (i := .aload_n 1) (len := 1) 233 1 (by decide +kernel) rfl l.2.1 ?_
  refine zw_c (i := .invokevirtual 119) (len := 3) 236 (by decide +kernel) gm_80 rfl (gb_vs rfl rfl rfl rfl rfl gcl_1 rfl rfl rfl) e1 rfl rfl ?_
  refine zw_al (i := .aload_n 2) (len := 1) 237 2 (by decide +kernel) rfl l.2.2.1 ?_
  refine zw_c (i := .invokevirtual 122) (len := 3) 240 (by decide +kernel) gm_136 rfl (gb_vs rfl rfl rfl rfl rfl gcl_187 rfl rfl rfl) e2 rfl rfl ?_
  exact zw_if (c := .eq) (off := 1719) 1959 243 (by decide +kernel) rfl rfl rfl hv hv (fun _ => cont _ _ hJ l) (fun h => absurd rfl h)
theorem lc_2 (hc0 : c0 = (20, xs.map Value.int)) (hl : xs.length ≤ 2560) (hj : 5 * c + 5 ≤ xs.length) (l : LL lo c) (H : CM rI c (fx_197 (xj xs c 1)) (fx_137 (xj xs c 1)) σ) (cont : ∀ σ2 lo2, JJ (c + 1) σ2 → LL lo2 c → zw c0 t 1959 lo2 [] σ2) : zw c0 (t + 31) 245 lo [] σ := by
  obtain ⟨k, σ1, b, σ2, e1, e2, e3, e4, e5, e6, e7⟩ := H
  refine zw_al (i := .aload_n 1) (len := 1) 246 1 (by decide +kernel) rfl l.2.1 ?_
  refine zw_arg (pc := 246) 1 hc0 hl (by omega) l (by decide +kernel) ?_
  refine zw_al (i := .aload_n 3) (len := 1) 253 3 (by decide +kernel) rfl l.2.2.2.1 ?_
  refine zw_c (i := .invokestatic 123) (len := 3) 256 (by decide +kernel) (gm_197 (xj xs c 1)) rfl (gb_ss rfl rfl rfl rfl rfl rfl rfl) e1 rfl rfl ?_
  refine zw_s (i := .istore 5) (len := 2) (lo' := gh_st1 lo 5 (vi k)) (st' := []) 258 (by decide +kernel) rfl ?_
  have l5 := LL_5 (v := vi k) l
  refine zw_al (i := .aload_n 2) (len := 1) 259 2 (by decide +kernel) rfl l5.2.2.1 ?_
  refine zw_arg (pc := 259) 1 hc0 hl (by omega) l5 (by decide +kernel) ?_
  refine zw_c (i := .invokevirtual 125) (len := 3) 268 (by decide +kernel) (gm_137 (xj xs c 1)) rfl (gb_vs rfl rfl rfl rfl rfl gcl_187 rfl rfl rfl) e2 rfl rfl ?_
  refine zw_s (i := .istore 6) (len := 2) (lo' := gh_st1 (gh_st1 lo 5 (vi k)) 6 (vi b)) (st' := []) 270 (by decide +kernel) rfl ?_
  exact zw_tI (q := 270) (off := 1661) (LL_6 l5) (gl1 rfl rfl gs1) gs1 (by decide +kernel) (by decide +kernel) rfl e3 e4 e5 e6 (cont _ _ e7 (LL_6 l5))
theorem lc_3 (hc0 : c0 = (20, xs.map Value.int)) (hl : xs.length ≤ 2560) (hj : 5 * c + 5 ≤ xs.length) (l : LL lo c) (H : CM rI c (fx_198 (xj xs c 1)) (fx_138 (xj xs c 1)) σ) (cont : ∀ σ2 lo2, JJ (c + 1) σ2 → LL lo2 c → zw c0 t 1959 lo2 [] σ2) : zw c0 (t + 31) 301 lo [] σ := by
  obtain ⟨k, σ1, b, σ2, e1, e2, e3, e4, e5, e6, e7⟩ := H
  refine zw_al (i := .aload_n 1) (len := 1) 302 1 (by decide +kernel) rfl l.2.1 ?_
  refine zw_arg (pc := 302) 1 hc0 hl (by omega) l (by decide +kernel) ?_
  refine zw_al (i := .aload_n 3) (len := 1) 309 3 (by decide +kernel) rfl l.2.2.2.1 ?_
  refine zw_c (i := .invokestatic 126) (len := 3) 312 (by decide +kernel) (gm_198 (xj xs c 1)) rfl (gb_ss rfl rfl rfl rfl rfl rfl rfl) e1 rfl rfl ?_
  refine zw_s (i := .istore 5) (len := 2) (lo' := gh_st1 lo 5 (vi k)) (st' := []) 314 (by decide +kernel) rfl ?_
  have l5 := LL_5 (v := vi k) l
  refine zw_al (i := .aload_n 2) (len := 1) 315 2 (by decide +kernel) rfl l5.2.2.1 ?_
  refine zw_arg (pc := 315) 1 hc0 hl (by omega) l5 (by decide +kernel) ?_
  refine zw_c (i := .invokevirtual 128) (len := 3) 324 (by decide +kernel) (gm_138 (xj xs c 1)) rfl (gb_vs rfl rfl rfl rfl rfl gcl_187 rfl rfl rfl) e2 rfl rfl ?_
  refine zw_s (i := .istore 6) (len := 2) (lo' := gh_st1 (gh_st1 lo 5 (vi k)) 6 (vi b)) (st' := []) 326 (by decide +kernel) rfl ?_
  exact zw_tI (q := 326) (off := 1605) (LL_6 l5) (gl1 rfl rfl gs1) gs1 (by decide +kernel) (by decide +kernel) rfl e3 e4 e5 e6 (cont _ _ e7 (LL_6 l5))
theorem lc_4 (l : LL lo c) {v : Int} {s : gb_S} (e1 : fx_83 σ = some (.inl v, σ)) (hv : gb_R v) (e2 : fx_139 σ = some (.inl v, s)) (hJ : JJ (c + 1) s) (cont : ∀ σ2 lo2, JJ (c + 1) σ2 → LL lo2 c → zw c0 t 1959 lo2 [] σ2) : zw c0 (t + 5) 357 lo [] σ := by
  refine zw_al (i := .aload_n 1) (len := 1) 358 1 (by decide +kernel) rfl l.2.1 ?_
  refine zw_c (i := .invokevirtual 129) (len := 3) 361 (by decide +kernel) gm_83 rfl (gb_vs rfl rfl rfl rfl rfl gcl_1 rfl rfl rfl) e1 rfl rfl ?_
  refine zw_al (i := .aload_n 2) (len := 1) 362 2 (by decide +kernel) rfl l.2.2.1 ?_
  refine zw_c (i := .invokevirtual 132) (len := 3) 365 (by decide +kernel) gm_139 rfl (gb_vs rfl rfl rfl rfl rfl gcl_187 rfl rfl rfl) e2 rfl rfl ?_
  exact zw_if (c := .eq) (off := 1594) 1959 368 (by decide +kernel) rfl rfl rfl hv hv (fun _ => cont _ _ hJ l) (fun h => absurd rfl h)
theorem lc_5 (hc0 : c0 = (20, xs.map Value.int)) (hl : xs.length ≤ 2560) (hj : 5 * c + 5 ≤ xs.length) (l : LL lo c) (H : CM (fun b => b = 0 ∨ b = 1) c (fx_199 (xj xs c 1)) (fx_140 (xj xs c 1)) σ) (cont : ∀ σ2 lo2, JJ (c + 1) σ2 → LL lo2 c → zw c0 t 1959 lo2 [] σ2) : zw c0 (t + 37) 370 lo [] σ := by
  obtain ⟨k, σ1, b, σ2, e1, e2, e3, e4, e5, e6, e7⟩ := H
  refine zw_al (i := .aload_n 1) (len := 1) 371 1 (by decide +kernel) rfl l.2.1 ?_
  refine zw_arg (pc := 371) 1 hc0 hl (by omega) l (by decide +kernel) ?_
  refine zw_al (i := .aload_n 3) (len := 1) 378 3 (by decide +kernel) rfl l.2.2.2.1 ?_
  refine zw_c (i := .invokestatic 133) (len := 3) 381 (by decide +kernel) (gm_199 (xj xs c 1)) rfl (gb_ss rfl rfl rfl rfl rfl rfl rfl) e1 rfl rfl ?_
  refine zw_s (i := .istore 5) (len := 2) (lo' := gh_st1 lo 5 (vi k)) (st' := []) 383 (by decide +kernel) rfl ?_
  have l5 := LL_5 (v := vi k) l
  refine zw_al (i := .aload_n 2) (len := 1) 384 2 (by decide +kernel) rfl l5.2.2.1 ?_
  refine zw_arg (pc := 384) 1 hc0 hl (by omega) l5 (by decide +kernel) ?_
  refine zw_c (i := .invokevirtual 135) (len := 3) 393 (by decide +kernel) (gm_140 (xj xs c 1)) rfl (gb_vs rfl rfl rfl rfl rfl gcl_187 rfl rfl rfl) e2 rfl rfl ?_
  refine zw_s (i := .istore 6) (len := 2) (lo' := gh_st1 (gh_st1 lo 5 (vi k)) 6 (vi b)) (st' := []) 395 (by decide +kernel) rfl ?_
  exact zw_tZ (q := 395) (off := 1529) (LL_6 l5) (gl1 rfl rfl gs1) gs1 (by decide +kernel) (by decide +kernel) rfl e3 e4 e5 e6 (cont _ _ e7 (LL_6 l5))
theorem lc_6 (hc0 : c0 = (20, xs.map Value.int)) (hl : xs.length ≤ 2560) (hj : 5 * c + 5 ≤ xs.length) (l : LL lo c) (H : CM rI c (fx_200 (xj xs c 1) (xj xs c 2) (xj xs c 3)) (fx_145 (xj xs c 1) (xj xs c 2) (xj xs c 3)) σ) (cont : ∀ σ2 lo2, JJ (c + 1) σ2 → LL lo2 c → zw c0 t 1959 lo2 [] σ2) : zw c0 (t + 51) 433 lo [] σ := by
  obtain ⟨k, σ1, b, σ2, e1, e2, e3, e4, e5, e6, e7⟩ := H
  refine zw_al (i := .aload_n 1) (len := 1) 434 1 (by decide +kernel) rfl l.2.1 ?_
  refine zw_arg (pc := 434) 1 hc0 hl (by omega) l (by decide +kernel) ?_
  refine zw_arg (pc := 440) 2 hc0 hl (by omega) l (by decide +kernel) ?_
  refine zw_arg (pc := 446) 3 hc0 hl (by omega) l (by decide +kernel) ?_
  refine zw_al (i := .aload_n 3) (len := 1) 453 3 (by decide +kernel) rfl l.2.2.2.1 ?_
  refine zw_c (i := .invokestatic 136) (len := 3) 456 (by decide +kernel) (gm_200 (xj xs c 1) (xj xs c 2) (xj xs c 3)) rfl (gb_ss rfl rfl rfl rfl rfl rfl rfl) e1 rfl rfl ?_
  refine zw_s (i := .istore 5) (len := 2) (lo' := gh_st1 lo 5 (vi k)) (st' := []) 458 (by decide +kernel) rfl ?_
  have l5 := LL_5 (v := vi k) l
  refine zw_al (i := .aload_n 2) (len := 1) 459 2 (by decide +kernel) rfl l5.2.2.1 ?_
  refine zw_arg (pc := 459) 1 hc0 hl (by omega) l5 (by decide +kernel) ?_
  refine zw_arg (pc := 465) 2 hc0 hl (by omega) l5 (by decide +kernel) ?_
  refine zw_arg (pc := 471) 3 hc0 hl (by omega) l5 (by decide +kernel) ?_
  refine zw_c (i := .invokevirtual 139) (len := 3) 480 (by decide +kernel) (gm_145 (xj xs c 1) (xj xs c 2) (xj xs c 3)) rfl (gb_vs rfl rfl rfl rfl rfl gcl_187 rfl rfl rfl) e2 rfl rfl ?_
  refine zw_s (i := .istore 6) (len := 2) (lo' := gh_st1 (gh_st1 lo 5 (vi k)) 6 (vi b)) (st' := []) 482 (by decide +kernel) rfl ?_
  exact zw_tI (q := 482) (off := 1449) (LL_6 l5) (gl1 rfl rfl gs1) gs1 (by decide +kernel) (by decide +kernel) rfl e3 e4 e5 e6 (cont _ _ e7 (LL_6 l5))
theorem lc_7 (hc0 : c0 = (20, xs.map Value.int)) (hl : xs.length ≤ 2560) (hj : 5 * c + 5 ≤ xs.length) (l : LL lo c) (H : CM rI c (fx_201 (xj xs c 1) (xj xs c 2)) (fx_146 (xj xs c 1) (xj xs c 2)) σ) (cont : ∀ σ2 lo2, JJ (c + 1) σ2 → LL lo2 c → zw c0 t 1959 lo2 [] σ2) : zw c0 (t + 41) 513 lo [] σ := by
  obtain ⟨k, σ1, b, σ2, e1, e2, e3, e4, e5, e6, e7⟩ := H
  refine zw_al (i := .aload_n 1) (len := 1) 514 1 (by decide +kernel) rfl l.2.1 ?_
  refine zw_arg (pc := 514) 1 hc0 hl (by omega) l (by decide +kernel) ?_
  refine zw_arg (pc := 520) 2 hc0 hl (by omega) l (by decide +kernel) ?_
  refine zw_al (i := .aload_n 3) (len := 1) 527 3 (by decide +kernel) rfl l.2.2.2.1 ?_
  refine zw_c (i := .invokestatic 140) (len := 3) 530 (by decide +kernel) (gm_201 (xj xs c 1) (xj xs c 2)) rfl (gb_ss rfl rfl rfl rfl rfl rfl rfl) e1 rfl rfl ?_
  refine zw_s (i := .istore 5) (len := 2) (lo' := gh_st1 lo 5 (vi k)) (st' := []) 532 (by decide +kernel) rfl ?_
  have l5 := LL_5 (v := vi k) l
  refine zw_al (i := .aload_n 2) (len := 1) 533 2 (by decide +kernel) rfl l5.2.2.1 ?_
  refine zw_arg (pc := 533) 1 hc0 hl (by omega) l5 (by decide +kernel) ?_
  refine zw_arg (pc := 539) 2 hc0 hl (by omega) l5 (by decide +kernel) ?_
  refine zw_c (i := .invokevirtual 143) (len := 3) 548 (by decide +kernel) (gm_146 (xj xs c 1) (xj xs c 2)) rfl (gb_vs rfl rfl rfl rfl rfl gcl_187 rfl rfl rfl) e2 rfl rfl ?_
  refine zw_s (i := .istore 6) (len := 2) (lo' := gh_st1 (gh_st1 lo 5 (vi k)) 6 (vi b)) (st' := []) 550 (by decide +kernel) rfl ?_
  exact zw_tI (q := 550) (off := 1381) (LL_6 l5) (gl1 rfl rfl gs1) gs1 (by decide +kernel) (by decide +kernel) rfl e3 e4 e5 e6 (cont _ _ e7 (LL_6 l5))
end LC1
