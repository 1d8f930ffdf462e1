section LC2
variable {c0 : gh_C} {xs : List Int32} {t c : Nat} {lo : gh_L} {σ : gb_S}
theorem lc_8 (hc0 : c0 = (20, xs.map Value.int)) (hl : xs.length ≤ 2560) (hj : 5 * c + 5 ≤ xs.length) (l : LL lo c) (H : CM rI c (fx_202 (xj xs c 1) (ib (!decide (xj xs c 2 = 0)))) (fx_147 (xj xs c 1) (ib (!decide (xj xs c 2 = 0)))) σ) (cont : ∀ σ2 lo2, JJ (c + 1) σ2 → LL lo2 c → zw c0 t 1959 lo2 [] σ2) : zw c0 (t + 47) 581 lo [] σ := by
  obtain ⟨k, σ1, b, σ2, e1, e2, e3, e4, e5, e6, e7⟩ := H
  refine zw_al (i := .aload_n 1) (len := 1) 582 1 (by decide +kernel) rfl l.2.1 ?_
  refine zw_arg (pc := 582) 1 hc0 hl (by omega) l (by decide +kernel) ?_
  refine zw_arg (pc := 588) 2 hc0 hl (by omega) l (by decide +kernel) ?_
  refine zw_nz (pc := 594) (xj_b xs c 2) (by decide +kernel) ?_
  refine zw_al (i := .aload_n 3) (len := 1) 603 3 (by decide +kernel) rfl l.2.2.2.1 ?_
  refine zw_c (i := .invokestatic 144) (len := 3) 606 (by decide +kernel) (gm_202 (xj xs c 1) (ib (!decide (xj xs c 2 = 0)))) rfl (gb_ss rfl rfl rfl rfl rfl rfl rfl) e1 rfl rfl ?_
  refine zw_s (i := .istore 5) (len := 2) (lo' := gh_st1 lo 5 (vi k)) (st' := []) 608 (by decide +kernel) rfl ?_
  have l5 := LL_5 (v := vi k) l
  refine zw_al (i := .aload_n 2) (len := 1) 609 2 (by decide +kernel) rfl l5.2.2.1 ?_
  refine zw_arg (pc := 609) 1 hc0 hl (by omega) l5 (by decide +kernel) ?_
  refine zw_arg (pc := 615) 2 hc0 hl (by omega) l5 (by decide +kernel) ?_
  refine zw_nz (pc := 621) (xj_b xs c 2) (by decide +kernel) ?_
  refine zw_c (i := .invokevirtual 147) (len := 3) 632 (by decide +kernel) (gm_147 (xj xs c 1) (ib (!decide (xj xs c 2 = 0)))) rfl (gb_vs rfl rfl rfl rfl rfl gcl_187 rfl rfl rfl) e2 rfl rfl ?_
  refine zw_s (i := .istore 6) (len := 2) (lo' := gh_st1 (gh_st1 lo 5 (vi k)) 6 (vi b)) (st' := []) 634 (by decide +kernel) rfl ?_
  exact zw_tI (q := 634) (off := 1297) (LL_6 l5) (gl1 rfl rfl gs1) gs1 (by decide +kernel) (by decide +kernel) rfl e3 e4 e5 e6 (cont _ _ e7 (LL_6 l5))
theorem lc_9 (hc0 : c0 = (20, xs.map Value.int)) (hl : xs.length ≤ 2560) (hj : 5 * c + 5 ≤ xs.length) (l : LL lo c) (H : CM rI c (fx_203 (xj xs c 1)) (fx_148 (xj xs c 1)) σ) (cont : ∀ σ2 lo2, JJ (c + 1) σ2 → LL lo2 c → zw c0 t 1959 lo2 [] σ2) : zw c0 (t + 31) 665 lo [] σ := by
  obtain ⟨k, σ1, b, σ2, e1, e2, e3, e4, e5, e6, e7⟩ := H
  refine zw_al (i := .aload_n 1) (len := 1) 666 1 (by decide +kernel) rfl l.2.1 ?_
  refine zw_arg (pc := 666) 1 hc0 hl (by omega) l (by decide +kernel) ?_
  refine zw_al (i := .aload_n 3) (len := 1) 673 3 (by decide +kernel) rfl l.2.2.2.1 ?_
  refine zw_c (i := .invokestatic 148) (len := 3) 676 (by decide +kernel) (gm_203 (xj xs c 1)) rfl (gb_ss rfl rfl rfl rfl rfl rfl rfl) e1 rfl rfl ?_
  refine zw_s (i := .istore 5) (len := 2) (lo' := gh_st1 lo 5 (vi k)) (st' := []) 678 (by decide +kernel) rfl ?_
  have l5 := LL_5 (v := vi k) l
  refine zw_al (i := .aload_n 2) (len := 1) 679 2 (by decide +kernel) rfl l5.2.2.1 ?_
  refine zw_arg (pc := 679) 1 hc0 hl (by omega) l5 (by decide +kernel) ?_
  refine zw_c (i := .invokevirtual 150) (len := 3) 688 (by decide +kernel) (gm_148 (xj xs c 1)) rfl (gb_vs rfl rfl rfl rfl rfl gcl_187 rfl rfl rfl) e2 rfl rfl ?_
  refine zw_s (i := .istore 6) (len := 2) (lo' := gh_st1 (gh_st1 lo 5 (vi k)) 6 (vi b)) (st' := []) 690 (by decide +kernel) rfl ?_
  exact zw_tI (q := 690) (off := 1241) (LL_6 l5) (gl1 rfl rfl gs1) gs1 (by decide +kernel) (by decide +kernel) rfl e3 e4 e5 e6 (cont _ _ e7 (LL_6 l5))
theorem lc_10 (l : LL lo c) {v : Int} {s : gb_S} (e1 : fx_89 σ = some (.inl v, σ)) (hv : gb_R v) (e2 : fx_149 σ = some (.inl v, s)) (hJ : JJ (c + 1) s) (cont : ∀ σ2 lo2, JJ (c + 1) σ2 → LL lo2 c → zw c0 t 1959 lo2 [] σ2) : zw c0 (t + 5) 721 lo [] σ := by
  refine zw_al (i := .aload_n 1) (len := 1) 722 1 (by decide +kernel) rfl l.2.1 ?_
  refine zw_c (i := .invokevirtual 151) (len := 3) 725 (by decide +kernel) gm_89 rfl (gb_vs rfl rfl rfl rfl rfl gcl_1 rfl rfl rfl) e1 rfl rfl ?_
  refine zw_al (i := .aload_n 2) (len := 1) 726 2 (by decide +kernel) rfl l.2.2.1 ?_
  refine zw_c (i := .invokevirtual 154) (len := 3) 729 (by decide +kernel) gm_149 rfl (gb_vs rfl rfl rfl rfl rfl gcl_187 rfl rfl rfl) e2 rfl rfl ?_
  exact zw_if (c := .eq) (off := 1230) 1959 732 (by decide +kernel) rfl rfl rfl hv hv (fun _ => cont _ _ hJ l) (fun h => absurd rfl h)
theorem lc_11 (hc0 : c0 = (20, xs.map Value.int)) (hl : xs.length ≤ 2560) (hj : 5 * c + 5 ≤ xs.length) (l : LL lo c) (H : CM rI c (fx_204 (xj xs c 1) (xj xs c 2)) (fx_150 (xj xs c 1) (xj xs c 2)) σ) (cont : ∀ σ2 lo2, JJ (c + 1) σ2 → LL lo2 c → zw c0 t 1959 lo2 [] σ2) : zw c0 (t + 41) 734 lo [] σ := by
  obtain ⟨k, σ1, b, σ2, e1, e2, e3, e4, e5, e6, e7⟩ := H
  refine zw_al (i := .aload_n 1) (len := 1) 735 1 (by decide +kernel) rfl l.2.1 ?_
  refine zw_arg (pc := 735) 1 hc0 hl (by omega) l (by decide +kernel) ?_
  refine zw_arg (pc := 741) 2 hc0 hl (by omega) l (by decide +kernel) ?_
  refine zw_al (i := .aload_n 3) (len := 1) 748 3 (by decide +kernel) rfl l.2.2.2.1 ?_
  refine zw_c (i := .invokestatic 155) (len := 3) 751 (by decide +kernel) (gm_204 (xj xs c 1) (xj xs c 2)) rfl (gb_ss rfl rfl rfl rfl rfl rfl rfl) e1 rfl rfl ?_
  refine zw_s (i := .istore 5) (len := 2) (lo' := gh_st1 lo 5 (vi k)) (st' := []) 753 (by decide +kernel) rfl ?_
  have l5 := LL_5 (v := vi k) l
  refine zw_al (i := .aload_n 2) (len := 1) 754 2 (by decide +kernel) rfl l5.2.2.1 ?_
  refine zw_arg (pc := 754) 1 hc0 hl (by omega) l5 (by decide +kernel) ?_
  refine zw_arg (pc := 760) 2 hc0 hl (by omega) l5 (by decide +kernel) ?_
  refine zw_c (i := .invokevirtual 157) (len := 3) 769 (by decide +kernel) (gm_150 (xj xs c 1) (xj xs c 2)) rfl (gb_vs rfl rfl rfl rfl rfl gcl_187 rfl rfl rfl) e2 rfl rfl ?_
  refine zw_s (i := .istore 6) (len := 2) (lo' := gh_st1 (gh_st1 lo 5 (vi k)) 6 (vi b)) (st' := []) 771 (by decide +kernel) rfl ?_
  exact zw_tI (q := 771) (off := 1160) (LL_6 l5) (gl1 rfl rfl gs1) gs1 (by decide +kernel) (by decide +kernel) rfl e3 e4 e5 e6 (cont _ _ e7 (LL_6 l5))
theorem lc_12 (hc0 : c0 = (20, xs.map Value.int)) (hl : xs.length ≤ 2560) (hj : 5 * c + 5 ≤ xs.length) (l : LL lo c) (H : CM rI c (fx_205 (xj xs c 1)) (fx_151 (xj xs c 1)) σ) (cont : ∀ σ2 lo2, JJ (c + 1) σ2 → LL lo2 c → zw c0 t 1959 lo2 [] σ2) : zw c0 (t + 31) 802 lo [] σ := by
  obtain ⟨k, σ1, b, σ2, e1, e2, e3, e4, e5, e6, e7⟩ := H
  refine zw_al (i := .aload_n 1) (len := 1) 803 1 (by decide +kernel) rfl l.2.1 ?_
  refine zw_arg (pc := 803) 1 hc0 hl (by omega) l (by decide +kernel) ?_
  refine zw_al (i := .aload_n 3) (len := 1) 810 3 (by decide +kernel) rfl l.2.2.2.1 ?_
  refine zw_c (i := .invokestatic 158) (len := 3) 813 (by decide +kernel) (gm_205 (xj xs c 1)) rfl (gb_ss rfl rfl rfl rfl rfl rfl rfl) e1 rfl rfl ?_
  refine zw_s (i := .istore 5) (len := 2) (lo' := gh_st1 lo 5 (vi k)) (st' := []) 815 (by decide +kernel) rfl ?_
  have l5 := LL_5 (v := vi k) l
  refine zw_al (i := .aload_n 2) (len := 1) 816 2 (by decide +kernel) rfl l5.2.2.1 ?_
  refine zw_arg (pc := 816) 1 hc0 hl (by omega) l5 (by decide +kernel) ?_
  refine zw_c (i := .invokevirtual 160) (len := 3) 825 (by decide +kernel) (gm_151 (xj xs c 1)) rfl (gb_vs rfl rfl rfl rfl rfl gcl_187 rfl rfl rfl) e2 rfl rfl ?_
  refine zw_s (i := .istore 6) (len := 2) (lo' := gh_st1 (gh_st1 lo 5 (vi k)) 6 (vi b)) (st' := []) 827 (by decide +kernel) rfl ?_
  exact zw_tI (q := 827) (off := 1104) (LL_6 l5) (gl1 rfl rfl gs1) gs1 (by decide +kernel) (by decide +kernel) rfl e3 e4 e5 e6 (cont _ _ e7 (LL_6 l5))
theorem lc_13 (hc0 : c0 = (20, xs.map Value.int)) (hl : xs.length ≤ 2560) (hj : 5 * c + 5 ≤ xs.length) (l : LL lo c) (H : CM rI c (fx_206 (xj xs c 1) (xj xs c 2) (xj xs c 3)) (fx_152 (xj xs c 1) (xj xs c 2) (xj xs c 3)) σ) (cont : ∀ σ2 lo2, JJ (c + 1) σ2 → LL lo2 c → zw c0 t 1959 lo2 [] σ2) : zw c0 (t + 51) 858 lo [] σ := by
  obtain ⟨k, σ1, b, σ2, e1, e2, e3, e4, e5, e6, e7⟩ := H
  refine zw_al (i := .aload_n 1) (len := 1) 859 1 (by decide +kernel) rfl l.2.1 ?_
  refine zw_arg (pc := 859) 1 hc0 hl (by omega) l (by decide +kernel) ?_
  refine zw_arg (pc := 865) 2 hc0 hl (by omega) l (by decide +kernel) ?_
  refine zw_arg (pc := 871) 3 hc0 hl (by omega) l (by decide +kernel) ?_
  refine zw_al (i := .aload_n 3) (len := 1) 878 3 (by decide +kernel) rfl l.2.2.2.1 ?_
  refine zw_c (i := .invokestatic 161) (len := 3) 881 (by decide +kernel) (gm_206 (xj xs c 1) (xj xs c 2) (xj xs c 3)) rfl (gb_ss rfl rfl rfl rfl rfl rfl rfl) e1 rfl rfl ?_
  refine zw_s (i := .istore 5) (len := 2) (lo' := gh_st1 lo 5 (vi k)) (st' := []) 883 (by decide +kernel) rfl ?_
  have l5 := LL_5 (v := vi k) l
  refine zw_al (i := .aload_n 2) (len := 1) 884 2 (by decide +kernel) rfl l5.2.2.1 ?_
  refine zw_arg (pc := 884) 1 hc0 hl (by omega) l5 (by decide +kernel) ?_
  refine zw_arg (pc := 890) 2 hc0 hl (by omega) l5 (by decide +kernel) ?_
  refine zw_arg (pc := 896) 3 hc0 hl (by omega) l5 (by decide +kernel) ?_
  refine zw_c (i := .invokevirtual 163) (len := 3) 905 (by decide +kernel) (gm_152 (xj xs c 1) (xj xs c 2) (xj xs c 3)) rfl (gb_vs rfl rfl rfl rfl rfl gcl_187 rfl rfl rfl) e2 rfl rfl ?_
  refine zw_s (i := .istore 6) (len := 2) (lo' := gh_st1 (gh_st1 lo 5 (vi k)) 6 (vi b)) (st' := []) 907 (by decide +kernel) rfl ?_
  exact zw_tI (q := 907) (off := 1024) (LL_6 l5) (gl1 rfl rfl gs1) gs1 (by decide +kernel) (by decide +kernel) rfl e3 e4 e5 e6 (cont _ _ e7 (LL_6 l5))
theorem lc_14 (hc0 : c0 = (20, xs.map Value.int)) (hl : xs.length ≤ 2560) (hj : 5 * c + 5 ≤ xs.length) (l : LL lo c) (H : CM rI c (fx_207 (xj xs c 1) (xj xs c 2)) (fx_154 (xj xs c 1) (xj xs c 2)) σ) (cont : ∀ σ2 lo2, JJ (c + 1) σ2 → LL lo2 c → zw c0 t 1959 lo2 [] σ2) : zw c0 (t + 41) 938 lo [] σ := by
  obtain ⟨k, σ1, b, σ2, e1, e2, e3, e4, e5, e6, e7⟩ := H
  refine zw_al (i := .aload_n 1) (len := 1) 939 1 (by decide +kernel) rfl l.2.1 ?_
  refine zw_arg (pc := 939) 1 hc0 hl (by omega) l (by decide +kernel) ?_
  refine zw_arg (pc := 945) 2 hc0 hl (by omega) l (by decide +kernel) ?_
  refine zw_al (i := .aload_n 3) (len := 1) 952 3 (by decide +kernel) rfl l.2.2.2.1 ?_
  refine zw_c (i := .invokestatic 164) (len := 3) 955 (by decide +kernel) (gm_207 (xj xs c 1) (xj xs c 2)) rfl (gb_ss rfl rfl rfl rfl rfl rfl rfl) e1 rfl rfl ?_
  refine zw_s (i := .istore 5) (len := 2) (lo' := gh_st1 lo 5 (vi k)) (st' := []) 957 (by decide +kernel) rfl ?_
  have l5 := LL_5 (v := vi k) l
  refine zw_al (i := .aload_n 2) (len := 1) 958 2 (by decide +kernel) rfl l5.2.2.1 ?_
  refine zw_arg (pc := 958) 1 hc0 hl (by omega) l5 (by decide +kernel) ?_
  refine zw_arg (pc := 964) 2 hc0 hl (by omega) l5 (by decide +kernel) ?_
  refine zw_c (i := .invokevirtual 166) (len := 3) 973 (by decide +kernel) (gm_154 (xj xs c 1) (xj xs c 2)) rfl (gb_vs rfl rfl rfl rfl rfl gcl_187 rfl rfl rfl) e2 rfl rfl ?_
  refine zw_s (i := .istore 6) (len := 2) (lo' := gh_st1 (gh_st1 lo 5 (vi k)) 6 (vi b)) (st' := []) 975 (by decide +kernel) rfl ?_
  exact zw_tI (q := 975) (off := 956) (LL_6 l5) (gl1 rfl rfl gs1) gs1 (by decide +kernel) (by decide +kernel) rfl e3 e4 e5 e6 (cont _ _ e7 (LL_6 l5))
theorem lc_15 (hc0 : c0 = (20, xs.map Value.int)) (hl : xs.length ≤ 2560) (hj : 5 * c + 5 ≤ xs.length) (l : LL lo c) (H : CM rI c (fx_208 (xj xs c 1)) (fx_155 (xj xs c 1)) σ) (cont : ∀ σ2 lo2, JJ (c + 1) σ2 → LL lo2 c → zw c0 t 1959 lo2 [] σ2) : zw c0 (t + 31) 1006 lo [] σ := by
  obtain ⟨k, σ1, b, σ2, e1, e2, e3, e4, e5, e6, e7⟩ := H
  refine zw_al (i := .aload_n 1) (len := 1) 1007 1 (by decide +kernel) rfl l.2.1 ?_
  refine zw_arg (pc := 1007) 1 hc0 hl (by omega) l (by decide +kernel) ?_
  refine zw_al (i := .aload_n 3) (len := 1) 1014 3 (by decide +kernel) rfl l.2.2.2.1 ?_
  refine zw_c (i := .invokestatic 167) (len := 3) 1017 (by decide +kernel) (gm_208 (xj xs c 1)) rfl (gb_ss rfl rfl rfl rfl rfl rfl rfl) e1 rfl rfl ?_
  refine zw_s (i := .istore 5) (len := 2) (lo' := gh_st1 lo 5 (vi k)) (st' := []) 1019 (by decide +kernel) rfl ?_
  have l5 := LL_5 (v := vi k) l
  refine zw_al (i := .aload_n 2) (len := 1) 1020 2 (by decide +kernel) rfl l5.2.2.1 ?_
  refine zw_arg (pc := 1020) 1 hc0 hl (by omega) l5 (by decide +kernel) ?_
  refine zw_c (i := .invokevirtual 169) (len := 3) 1029 (by decide +kernel) (gm_155 (xj xs c 1)) rfl (gb_vs rfl rfl rfl rfl rfl gcl_187 rfl rfl rfl) e2 rfl rfl ?_
  refine zw_s (i := .istore 6) (len := 2) (lo' := gh_st1 (gh_st1 lo 5 (vi k)) 6 (vi b)) (st' := []) 1031 (by decide +kernel) rfl ?_
  exact zw_tI (q := 1031) (off := 900) (LL_6 l5) (gl1 rfl rfl gs1) gs1 (by decide +kernel) (by decide +kernel) rfl e3 e4 e5 e6 (cont _ _ e7 (LL_6 l5))
end LC2
