section LC4
variable {c0 : gh_C} {xs : List Int32} {t c : Nat} {lo : gh_L} {σ : gb_S}
theorem lc_24 (hc0 : c0 = (20, xs.map Value.int)) (hl : xs.length ≤ 2560) (hj : 5 * c + 5 ≤ xs.length) (l : LL lo c) (H : CM rI c (fx_217 (xj xs c 1) (xj xs c 2) (xj xs c 3)) (fx_186 (xj xs c 1) (xj xs c 2) (xj xs c 3)) σ) (cont : ∀ σ2 lo2, JJ (c + 1) σ2 → LL lo2 c → zw c0 t 1959 lo2 [] σ2) : zw c0 (t + 51) 1550 lo [] σ := by
  obtain ⟨k, σ1, b, σ2, e1, e2, e3, e4, e5, e6, e7⟩ := H
  refine zw_al (i := .aload_n 1) (len := 1) 1551 1 (by decide +kernel) rfl l.2.1 ?_
  refine zw_arg (pc := 1551) 1 hc0 hl (by omega) l (by decide +kernel) ?_
  refine zw_arg (pc := 1557) 2 hc0 hl (by omega) l (by decide +kernel) ?_
  refine zw_arg (pc := 1563) 3 hc0 hl (by omega) l (by decide +kernel) ?_
  refine zw_al (i := .aload_n 3) (len := 1) 1570 3 (by decide +kernel) rfl l.2.2.2.1 ?_
  refine zw_c (i := .invokestatic 194) (len := 3) 1573 (by decide +kernel) (gm_217 (xj xs c 1) (xj xs c 2) (xj xs c 3)) rfl (gb_ss rfl rfl rfl rfl rfl rfl rfl) e1 rfl rfl ?_
  refine zw_s (i := .istore 5) (len := 2) (lo' := gh_st1 lo 5 (vi k)) (st' := []) 1575 (by decide +kernel) rfl ?_
  have l5 := LL_5 (v := vi k) l
  refine zw_al (i := .aload_n 2) (len := 1) 1576 2 (by decide +kernel) rfl l5.2.2.1 ?_
  refine zw_arg (pc := 1576) 1 hc0 hl (by omega) l5 (by decide +kernel) ?_
  refine zw_arg (pc := 1582) 2 hc0 hl (by omega) l5 (by decide +kernel) ?_
  refine zw_arg (pc := 1588) 3 hc0 hl (by omega) l5 (by decide +kernel) ?_
  refine zw_c (i := .invokevirtual 196) (len := 3) 1597 (by decide +kernel) (gm_186 (xj xs c 1) (xj xs c 2) (xj xs c 3)) rfl (gb_vs rfl rfl rfl rfl rfl gcl_187 rfl rfl rfl) e2 rfl rfl ?_
  refine zw_s (i := .istore 6) (len := 2) (lo' := gh_st1 (gh_st1 lo 5 (vi k)) 6 (vi b)) (st' := []) 1599 (by decide +kernel) rfl ?_
  exact zw_tI (q := 1599) (off := 332) (LL_6 l5) (gl1 rfl rfl gs1) gs1 (by decide +kernel) (by decide +kernel) rfl e3 e4 e5 e6 (cont _ _ e7 (LL_6 l5))
theorem lc_25 (hc0 : c0 = (20, xs.map Value.int)) (hl : xs.length ≤ 2560) (hj : 5 * c + 5 ≤ xs.length) (l : LL lo c) (H : CM rI c (fx_218 (xj xs c 1) (xj xs c 2) (xj xs c 3) (xj xs c 4)) (fx_187 (xj xs c 1) (xj xs c 2) (xj xs c 3) (xj xs c 4)) σ) (cont : ∀ σ2 lo2, JJ (c + 1) σ2 → LL lo2 c → zw c0 t 1959 lo2 [] σ2) : zw c0 (t + 61) 1630 lo [] σ := by
  obtain ⟨k, σ1, b, σ2, e1, e2, e3, e4, e5, e6, e7⟩ := H
  refine zw_al (i := .aload_n 1) (len := 1) 1631 1 (by decide +kernel) rfl l.2.1 ?_
  refine zw_arg (pc := 1631) 1 hc0 hl (by omega) l (by decide +kernel) ?_
  refine zw_arg (pc := 1637) 2 hc0 hl (by omega) l (by decide +kernel) ?_
  refine zw_arg (pc := 1643) 3 hc0 hl (by omega) l (by decide +kernel) ?_
  refine zw_arg (pc := 1649) 4 hc0 hl (by omega) l (by decide +kernel) ?_
  refine zw_al (i := .aload_n 3) (len := 1) 1656 3 (by decide +kernel) rfl l.2.2.2.1 ?_
  refine zw_c (i := .invokestatic 197) (len := 3) 1659 (by decide +kernel) (gm_218 (xj xs c 1) (xj xs c 2) (xj xs c 3) (xj xs c 4)) rfl (gb_ss rfl rfl rfl rfl rfl rfl rfl) e1 rfl rfl ?_
  refine zw_s (i := .istore 5) (len := 2) (lo' := gh_st1 lo 5 (vi k)) (st' := []) 1661 (by decide +kernel) rfl ?_
  have l5 := LL_5 (v := vi k) l
  refine zw_al (i := .aload_n 2) (len := 1) 1662 2 (by decide +kernel) rfl l5.2.2.1 ?_
  refine zw_arg (pc := 1662) 1 hc0 hl (by omega) l5 (by decide +kernel) ?_
  refine zw_arg (pc := 1668) 2 hc0 hl (by omega) l5 (by decide +kernel) ?_
  refine zw_arg (pc := 1674) 3 hc0 hl (by omega) l5 (by decide +kernel) ?_
  refine zw_arg (pc := 1680) 4 hc0 hl (by omega) l5 (by decide +kernel) ?_
  refine zw_c (i := .invokevirtual 200) (len := 3) 1689 (by decide +kernel) (gm_187 (xj xs c 1) (xj xs c 2) (xj xs c 3) (xj xs c 4)) rfl (gb_vs rfl rfl rfl rfl rfl gcl_187 rfl rfl rfl) e2 rfl rfl ?_
  refine zw_s (i := .istore 6) (len := 2) (lo' := gh_st1 (gh_st1 lo 5 (vi k)) 6 (vi b)) (st' := []) 1691 (by decide +kernel) rfl ?_
  exact zw_tI (q := 1691) (off := 240) (LL_6 l5) (gl1 rfl rfl gs1) gs1 (by decide +kernel) (by decide +kernel) rfl e3 e4 e5 e6 (cont _ _ e7 (LL_6 l5))
theorem lc_26 (hc0 : c0 = (20, xs.map Value.int)) (hl : xs.length ≤ 2560) (hj : 5 * c + 5 ≤ xs.length) (l : LL lo c) (H : CM rI c (fx_219 (xj xs c 1)) (fx_188 (xj xs c 1)) σ) (cont : ∀ σ2 lo2, JJ (c + 1) σ2 → LL lo2 c → zw c0 t 1959 lo2 [] σ2) : zw c0 (t + 31) 1722 lo [] σ := by
  obtain ⟨k, σ1, b, σ2, e1, e2, e3, e4, e5, e6, e7⟩ := H
  refine zw_al (i := .aload_n 1) (len := 1) 1723 1 (by decide +kernel) rfl l.2.1 ?_
  refine zw_arg (pc := 1723) 1 hc0 hl (by omega) l (by decide +kernel) ?_
  refine zw_al (i := .aload_n 3) (len := 1) 1730 3 (by decide +kernel) rfl l.2.2.2.1 ?_
  refine zw_c (i := .invokestatic 201) (len := 3) 1733 (by decide +kernel) (gm_219 (xj xs c 1)) rfl (gb_ss rfl rfl rfl rfl rfl rfl rfl) e1 rfl rfl ?_
  refine zw_s (i := .istore 5) (len := 2) (lo' := gh_st1 lo 5 (vi k)) (st' := []) 1735 (by decide +kernel) rfl ?_
  have l5 := LL_5 (v := vi k) l
  refine zw_al (i := .aload_n 2) (len := 1) 1736 2 (by decide +kernel) rfl l5.2.2.1 ?_
  refine zw_arg (pc := 1736) 1 hc0 hl (by omega) l5 (by decide +kernel) ?_
  refine zw_c (i := .invokevirtual 203) (len := 3) 1745 (by decide +kernel) (gm_188 (xj xs c 1)) rfl (gb_vs rfl rfl rfl rfl rfl gcl_187 rfl rfl rfl) e2 rfl rfl ?_
  refine zw_s (i := .istore 6) (len := 2) (lo' := gh_st1 (gh_st1 lo 5 (vi k)) 6 (vi b)) (st' := []) 1747 (by decide +kernel) rfl ?_
  exact zw_tI (q := 1747) (off := 184) (LL_6 l5) (gl1 rfl rfl gs1) gs1 (by decide +kernel) (by decide +kernel) rfl e3 e4 e5 e6 (cont _ _ e7 (LL_6 l5))
theorem lc_27 (hc0 : c0 = (20, xs.map Value.int)) (hl : xs.length ≤ 2560) (hj : 5 * c + 5 ≤ xs.length) (l : LL lo c) (H : CM rI c (fx_220 (xj xs c 1)) (fx_189 (xj xs c 1)) σ) (cont : ∀ σ2 lo2, JJ (c + 1) σ2 → LL lo2 c → zw c0 t 1959 lo2 [] σ2) : zw c0 (t + 31) 1778 lo [] σ := by
  obtain ⟨k, σ1, b, σ2, e1, e2, e3, e4, e5, e6, e7⟩ := H
  refine zw_al (i := .aload_n 1) (len := 1) 1779 1 (by decide +kernel) rfl l.2.1 ?_
  refine zw_arg (pc := 1779) 1 hc0 hl (by omega) l (by decide +kernel) ?_
  refine zw_al (i := .aload_n 3) (len := 1) 1786 3 (by decide +kernel) rfl l.2.2.2.1 ?_
  refine zw_c (i := .invokestatic 204) (len := 3) 1789 (by decide +kernel) (gm_220 (xj xs c 1)) rfl (gb_ss rfl rfl rfl rfl rfl rfl rfl) e1 rfl rfl ?_
  refine zw_s (i := .istore 5) (len := 2) (lo' := gh_st1 lo 5 (vi k)) (st' := []) 1791 (by decide +kernel) rfl ?_
  have l5 := LL_5 (v := vi k) l
  refine zw_al (i := .aload_n 2) (len := 1) 1792 2 (by decide +kernel) rfl l5.2.2.1 ?_
  refine zw_arg (pc := 1792) 1 hc0 hl (by omega) l5 (by decide +kernel) ?_
  refine zw_c (i := .invokevirtual 206) (len := 3) 1801 (by decide +kernel) (gm_189 (xj xs c 1)) rfl (gb_vs rfl rfl rfl rfl rfl gcl_187 rfl rfl rfl) e2 rfl rfl ?_
  refine zw_s (i := .istore 6) (len := 2) (lo' := gh_st1 (gh_st1 lo 5 (vi k)) 6 (vi b)) (st' := []) 1803 (by decide +kernel) rfl ?_
  exact zw_tI (q := 1803) (off := 128) (LL_6 l5) (gl1 rfl rfl gs1) gs1 (by decide +kernel) (by decide +kernel) rfl e3 e4 e5 e6 (cont _ _ e7 (LL_6 l5))
theorem lc_28 (hc0 : c0 = (20, xs.map Value.int)) (hl : xs.length ≤ 2560) (hj : 5 * c + 5 ≤ xs.length) (l : LL lo c) (H : CM rI c (fx_221 (xj xs c 1)) (fx_190 (xj xs c 1)) σ) (cont : ∀ σ2 lo2, JJ (c + 1) σ2 → LL lo2 c → zw c0 t 1959 lo2 [] σ2) : zw c0 (t + 31) 1834 lo [] σ := by
  obtain ⟨k, σ1, b, σ2, e1, e2, e3, e4, e5, e6, e7⟩ := H
  refine zw_al (i := .aload_n 1) (len := 1) 1835 1 (by decide +kernel) rfl l.2.1 ?_
  refine zw_arg (pc := 1835) 1 hc0 hl (by omega) l (by decide +kernel) ?_
  refine zw_al (i := .aload_n 3) (len := 1) 1842 3 (by decide +kernel) rfl l.2.2.2.1 ?_
  refine zw_c (i := .invokestatic 207) (len := 3) 1845 (by decide +kernel) (gm_221 (xj xs c 1)) rfl (gb_ss rfl rfl rfl rfl rfl rfl rfl) e1 rfl rfl ?_
  refine zw_s (i := .istore 5) (len := 2) (lo' := gh_st1 lo 5 (vi k)) (st' := []) 1847 (by decide +kernel) rfl ?_
  have l5 := LL_5 (v := vi k) l
  refine zw_al (i := .aload_n 2) (len := 1) 1848 2 (by decide +kernel) rfl l5.2.2.1 ?_
  refine zw_arg (pc := 1848) 1 hc0 hl (by omega) l5 (by decide +kernel) ?_
  refine zw_c (i := .invokevirtual 209) (len := 3) 1857 (by decide +kernel) (gm_190 (xj xs c 1)) rfl (gb_vs rfl rfl rfl rfl rfl gcl_187 rfl rfl rfl) e2 rfl rfl ?_
  refine zw_s (i := .istore 6) (len := 2) (lo' := gh_st1 (gh_st1 lo 5 (vi k)) 6 (vi b)) (st' := []) 1859 (by decide +kernel) rfl ?_
  exact zw_tI (q := 1859) (off := 72) (LL_6 l5) (gl1 rfl rfl gs1) gs1 (by decide +kernel) (by decide +kernel) rfl e3 e4 e5 e6 (cont _ _ e7 (LL_6 l5))
theorem lc_29 (l : LL lo c) {v : Int} {s : gb_S} (e1 : fx_108 σ = some (.inl v, σ)) (hv : gb_R v) (e2 : fx_191 σ = some (.inl v, s)) (hJ : JJ (c + 1) s) (cont : ∀ σ2 lo2, JJ (c + 1) σ2 → LL lo2 c → zw c0 t 1959 lo2 [] σ2) : zw c0 (t + 5) 1890 lo [] σ := by
  refine zw_al (i := .aload_n 1) (len := 1) 1891 1 (by decide +kernel) rfl l.2.1 ?_
  refine zw_c (i := .invokevirtual 210) (len := 3) 1894 (by decide +kernel) gm_108 rfl (gb_vs rfl rfl rfl rfl rfl gcl_1 rfl rfl rfl) e1 rfl rfl ?_
  refine zw_al (i := .aload_n 2) (len := 1) 1895 2 (by decide +kernel) rfl l.2.2.1 ?_
  refine zw_c (i := .invokevirtual 213) (len := 3) 1898 (by decide +kernel) gm_191 rfl (gb_vs rfl rfl rfl rfl rfl gcl_187 rfl rfl rfl) e2 rfl rfl ?_
  exact zw_if (c := .eq) (off := 61) 1959 1901 (by decide +kernel) rfl rfl rfl hv hv (fun _ => cont _ _ hJ l) (fun h => absurd rfl h)
theorem lc_30 (hc0 : c0 = (20, xs.map Value.int)) (hl : xs.length ≤ 2560) (hj : 5 * c + 5 ≤ xs.length) (l : LL lo c) (H : CM rI c (fx_222 (xj xs c 1)) (fx_192 (xj xs c 1)) σ) (cont : ∀ σ2 lo2, JJ (c + 1) σ2 → LL lo2 c → zw c0 t 1959 lo2 [] σ2) : zw c0 (t + 31) 1903 lo [] σ := by
  obtain ⟨k, σ1, b, σ2, e1, e2, e3, e4, e5, e6, e7⟩ := H
  refine zw_al (i := .aload_n 1) (len := 1) 1904 1 (by decide +kernel) rfl l.2.1 ?_
  refine zw_arg (pc := 1904) 1 hc0 hl (by omega) l (by decide +kernel) ?_
  refine zw_al (i := .aload_n 3) (len := 1) 1911 3 (by decide +kernel) rfl l.2.2.2.1 ?_
  refine zw_c (i := .invokestatic 214) (len := 3) 1914 (by decide +kernel) (gm_222 (xj xs c 1)) rfl (gb_ss rfl rfl rfl rfl rfl rfl rfl) e1 rfl rfl ?_
  refine zw_s (i := .istore 5) (len := 2) (lo' := gh_st1 lo 5 (vi k)) (st' := []) 1916 (by decide +kernel) rfl ?_
  have l5 := LL_5 (v := vi k) l
  refine zw_al (i := .aload_n 2) (len := 1) 1917 2 (by decide +kernel) rfl l5.2.2.1 ?_
  refine zw_arg (pc := 1917) 1 hc0 hl (by omega) l5 (by decide +kernel) ?_
  refine zw_c (i := .invokevirtual 216) (len := 3) 1926 (by decide +kernel) (gm_192 (xj xs c 1)) rfl (gb_vs rfl rfl rfl rfl rfl gcl_187 rfl rfl rfl) e2 rfl rfl ?_
  refine zw_s (i := .istore 6) (len := 2) (lo' := gh_st1 (gh_st1 lo 5 (vi k)) 6 (vi b)) (st' := []) 1928 (by decide +kernel) rfl ?_
  exact zw_tI (q := 1928) (off := 3) (LL_6 l5) (gl1 rfl rfl gs1) gs1 (by decide +kernel) (by decide +kernel) rfl e3 e4 e5 e6 (cont _ _ e7 (LL_6 l5))
end LC4
