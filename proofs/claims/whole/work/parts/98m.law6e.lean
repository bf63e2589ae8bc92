/-! THE LAW'S CASES 40 .. 49 (written by wip/src/law5.py) -/
theorem w_c40 {L t kc ks : Nat} {xs : Nat → Int32} (hL : L ≤ 3072) (ht : 6 * t + 6 ≤ L) (K : w_K L xs t kc ks) {h : s_H} {π : s_Pl} (q : w_St h π) : s_GL (s_Os L xs) TL_law w_Φ 1771 (s_lvs (w_lv t)) [] h 115 (kc + 2) (ks + 12) := by
  obtain ⟨hP, ⟨t0, hR⟩, ⟨f0, ho⟩, hby⟩ := q
  obtain ⟨cnt, cp, ok⟩ := hR.ok
  have hl := hR.l
  have hlen := hR.len
  have hb := hP.1
  unfold s_po at hb
  refine gl_aload_n dL_law_1771 rfl (by rfl) ?_
  refine gl_aload_n dL_law_1772 rfl (by rfl) ?_
  refine gl_iload dL_law_1773 (by rfl) ?_
  refine gl_iconst (nI 1) dL_law_1775 (by rfl) ?_
  refine gl_iadd dL_law_1776 ?_
  refine gl_sld hL dL_law_1777 (nI_add _ _) (by omega) ?_
  refine gl_callV_p (c_X8_capacityFor hP (by omega) ok (xs (6 * t + 1))) dL_law_1778 (mX8_capacityFor) rfl lL_263 iX8_capacityFor vX8_capacityFor (by decide) (by omega) hb rfl rfl rfl rfl (Nat.le_of_ble_eq_true rfl) (fun v9 h1 z1 => ?_)
  have ho0 := ho
  have hR0 := hR
  obtain ⟨rfl, hP, qoff⟩ := z1
  have ho := (qoff 114 (by omega)).trans ho0
  have hR := hR0.off qoff (by omega)
  clear ho0 hR0
  obtain ⟨I9, hm⟩ := hR.hd
  refine gl_aload_n dL_law_1781 rfl (by rfl) ?_
  refine gl_aload_n dL_law_1782 rfl (by rfl) ?_
  refine gl_iload dL_law_1783 (by rfl) ?_
  refine gl_iconst (nI 1) dL_law_1785 (by rfl) ?_
  refine gl_iadd dL_law_1786 ?_
  refine gl_sld hL dL_law_1787 (nI_add _ _) (by omega) ?_
  refine gl_callV_p (c_M_capacityFor hR (by omega) ok (xs (6 * t + 1))) dL_law_1788 (mX9_capacityFor) rfl lL_266 iX9_capacityFor vX9_capacityFor (by decide) (by omega) hm rfl rfl rfl rfl (Nat.le_of_ble_eq_true rfl) (fun v9 h2 z2 => ?_)
  have ho1 := ho
  have hP1 := hP
  obtain ⟨rfl, hR, qoff2⟩ := z2
  have ho := (qoff2 114 (by omega)).trans ho1
  have hP := hP1.off qoff2 (by omega)
  clear ho1 hP1
  refine gl_icmp_eq (tgt := 2583) dL_law_1791 (by decide) (fun _ => ?_) (fun c9 => absurd rfl c9)
  exact K.to ⟨hP, ⟨_, hR⟩, ⟨_, ho⟩, hby⟩ ⟨by rfl, by rfl, by rfl, by rfl, by rfl, trivial⟩ (by omega) (by omega)

theorem w_c41 {L t kc ks : Nat} {xs : Nat → Int32} (hL : L ≤ 3072) (ht : 6 * t + 6 ≤ L) (K : w_K L xs t kc ks) {h : s_H} {π : s_Pl} (q : w_St h π) : s_GL (s_Os L xs) TL_law w_Φ 1796 (s_lvs (w_lv t)) [] h 115 (kc + 2) (ks + 12) := by
  obtain ⟨hP, ⟨t0, hR⟩, ⟨f0, ho⟩, hby⟩ := q
  obtain ⟨cnt, cp, ok⟩ := hR.ok
  have hl := hR.l
  have hlen := hR.len
  have hb := hP.1
  unfold s_po at hb
  refine gl_aload_n dL_law_1796 rfl (by rfl) ?_
  refine gl_callV_p (c_X8_steps hP (by omega) ok) dL_law_1797 (mX8_steps) rfl lL_267 iX8_steps vX8_steps (by decide) (by omega) hb rfl rfl rfl rfl (Nat.le_of_ble_eq_true rfl) (fun v9 h1 z1 => ?_)
  have ho0 := ho
  have hR0 := hR
  obtain ⟨rfl, hP, qoff⟩ := z1
  have ho := (qoff 114 (by omega)).trans ho0
  have hR := hR0.off qoff (by omega)
  clear ho0 hR0
  obtain ⟨I9, hm⟩ := hR.hd
  refine gl_aload_n dL_law_1800 rfl (by rfl) ?_
  refine gl_callV_p (c_M_steps hR (by omega) ok) dL_law_1801 (mX9_steps) rfl lL_270 iX9_steps vX9_steps (by decide) (by omega) hm rfl rfl rfl rfl (Nat.le_of_ble_eq_true rfl) (fun v9 h2 z2 => ?_)
  have ho1 := ho
  have hP1 := hP
  obtain ⟨rfl, hR, qoff2⟩ := z2
  have ho := (qoff2 114 (by omega)).trans ho1
  have hP := hP1.off qoff2 (by omega)
  clear ho1 hP1
  refine gl_icmp_eq (tgt := 2583) dL_law_1804 (by decide) (fun _ => ?_) (fun c9 => absurd rfl c9)
  exact K.to ⟨hP, ⟨_, hR⟩, ⟨_, ho⟩, hby⟩ ⟨by rfl, by rfl, by rfl, by rfl, by rfl, trivial⟩ (by omega) (by omega)

theorem w_c42 {L t kc ks : Nat} {xs : Nat → Int32} (hL : L ≤ 3072) (ht : 6 * t + 6 ≤ L) (K : w_K L xs t kc ks) {h : s_H} {π : s_Pl} (q : w_St h π) : s_GL (s_Os L xs) TL_law w_Φ 1809 (s_lvs (w_lv t)) [] h 115 (kc + 2) (ks + 12) := by
  obtain ⟨hP, ⟨t0, hR⟩, ⟨f0, ho⟩, hby⟩ := q
  obtain ⟨cnt, cp, ok⟩ := hR.ok
  have hl := hR.l
  have hlen := hR.len
  have hb := hP.1
  unfold s_po at hb
  refine gl_aload_n dL_law_1809 rfl (by rfl) ?_
  refine gl_callV_p (c_X8_nextStep hP (by omega) ok) dL_law_1810 (mX8_nextStep) rfl lL_271 iX8_nextStep vX8_nextStep (by decide) (by omega) hb rfl rfl rfl rfl (Nat.le_of_ble_eq_true rfl) (fun v9 h1 z1 => ?_)
  have ho0 := ho
  have hR0 := hR
  obtain ⟨rfl, hP, qoff⟩ := z1
  have ho := (qoff 114 (by omega)).trans ho0
  have hR := hR0.off qoff (by omega)
  clear ho0 hR0
  obtain ⟨I9, hm⟩ := hR.hd
  refine gl_aload_n dL_law_1813 rfl (by rfl) ?_
  refine gl_callV_p (c_M_nextStep hR (by omega) ok) dL_law_1814 (mX9_nextStep) rfl lL_274 iX9_nextStep vX9_nextStep (by decide) (by omega) hm rfl rfl rfl rfl (Nat.le_of_ble_eq_true rfl) (fun v9 h2 z2 => ?_)
  have ho1 := ho
  have hP1 := hP
  obtain ⟨rfl, hR, qoff2⟩ := z2
  have ho := (qoff2 114 (by omega)).trans ho1
  have hP := hP1.off qoff2 (by omega)
  clear ho1 hP1
  refine gl_icmp_eq (tgt := 2583) dL_law_1817 (by decide) (fun _ => ?_) (fun c9 => absurd rfl c9)
  exact K.to ⟨hP, ⟨_, hR⟩, ⟨_, ho⟩, hby⟩ ⟨by rfl, by rfl, by rfl, by rfl, by rfl, trivial⟩ (by omega) (by omega)

theorem w_c43 {L t kc ks : Nat} {xs : Nat → Int32} (hL : L ≤ 3072) (ht : 6 * t + 6 ≤ L) (K : w_K L xs t kc ks) {h : s_H} {π : s_Pl} (q : w_St h π) : s_GL (s_Os L xs) TL_law w_Φ 1822 (s_lvs (w_lv t)) [] h 115 (kc + 2) (ks + 12) := by
  obtain ⟨hP, ⟨t0, hR⟩, ⟨f0, ho⟩, hby⟩ := q
  obtain ⟨cnt, cp, ok⟩ := hR.ok
  have hl := hR.l
  have hlen := hR.len
  have hb := hP.1
  unfold s_po at hb
  refine gl_aload_n dL_law_1822 rfl (by rfl) ?_
  refine gl_callV_e (c_X8_freeCount hP (by omega) ok) dL_law_1823 (mX8_freeCount) rfl lL_275 iX8_freeCount vX8_freeCount (by decide) (by omega) hb rfl rfl rfl rfl (Nat.le_of_ble_eq_true rfl) ?_
  obtain ⟨I9, hm⟩ := hR.hd
  refine gl_aload_n dL_law_1826 rfl (by rfl) ?_
  refine gl_callV_p (c_M_freeCount hR (by omega) ok) dL_law_1827 (mX9_freeCount) rfl lL_278 iX9_freeCount vX9_freeCount (by decide) (by omega) hm rfl rfl rfl rfl (Nat.le_of_ble_eq_true rfl) (fun v9 h2 z2 => ?_)
  have ho1 := ho
  have hP1 := hP
  obtain ⟨rfl, hR, qoff2⟩ := z2
  have ho := (qoff2 114 (by omega)).trans ho1
  have hP := hP1.off qoff2 (by omega)
  clear ho1 hP1
  refine gl_icmp_eq (tgt := 2583) dL_law_1830 (by decide) (fun _ => ?_) (fun c9 => absurd rfl c9)
  exact K.to ⟨hP, ⟨_, hR⟩, ⟨_, ho⟩, hby⟩ ⟨by rfl, by rfl, by rfl, by rfl, by rfl, trivial⟩ (by omega) (by omega)

theorem w_c44 {L t kc ks : Nat} {xs : Nat → Int32} (hL : L ≤ 3072) (ht : 6 * t + 6 ≤ L) (K : w_K L xs t kc ks) {h : s_H} {π : s_Pl} (q : w_St h π) : s_GL (s_Os L xs) TL_law w_Φ 1835 (s_lvs (w_lv t)) [] h 115 (kc + 2) (ks + 12) := by
  obtain ⟨hP, ⟨t0, hR⟩, ⟨f0, ho⟩, hby⟩ := q
  obtain ⟨cnt, cp, ok⟩ := hR.ok
  have hl := hR.l
  have hlen := hR.len
  have hb := hP.1
  unfold s_po at hb
  refine gl_aload_n dL_law_1835 rfl (by rfl) ?_
  refine gl_aload_n dL_law_1836 rfl (by rfl) ?_
  refine gl_iload dL_law_1837 (by rfl) ?_
  refine gl_iconst (nI 1) dL_law_1839 (by rfl) ?_
  refine gl_iadd dL_law_1840 ?_
  refine gl_sld hL dL_law_1841 (nI_add _ _) (by omega) ?_
  refine gl_aload_n dL_law_1842 rfl (by rfl) ?_
  refine gl_iload dL_law_1843 (by rfl) ?_
  refine gl_iconst (nI 2) dL_law_1845 (by rfl) ?_
  refine gl_iadd dL_law_1846 ?_
  refine gl_sld hL dL_law_1847 (nI_add _ _) (by omega) ?_
  refine gl_aload_n dL_law_1848 rfl (by rfl) ?_
  refine gl_callSH (c_L_cell hP (by omega) ho (by omega) (by omega) ok (xs (6 * t + 1)) (xs (6 * t + 2))) dL_law_1849 (mL_cell) rfl lL_279 sL_cell (by decide) rfl rfl (Nat.le_of_ble_eq_true rfl) (by omega) (by omega) (fun v9 h1 z1 => ?_)
  obtain ⟨z1, qoff⟩ := z1
  obtain ⟨hm9, q1, q2⟩ := qoff.mid (by omega)
  have hR := (hR.off q1 (by omega)).off q2 (by omega)
  obtain ⟨I9, hm⟩ := hR.hd
  clear hP hb ho q1 q2 qoff
  rcases z1 with ⟨hc, rfl, hP, f1, ho, hv⟩ | ⟨hc, rfl, hP, f1, ho⟩
  · refine gl_istore dL_law_1852 (by decide) ?_
    refine gl_aload_n dL_law_1854 rfl (by rfl) ?_
    refine gl_aload_n dL_law_1855 rfl (by rfl) ?_
    refine gl_iload dL_law_1856 (by rfl) ?_
    refine gl_iconst (nI 1) dL_law_1858 (by rfl) ?_
    refine gl_iadd dL_law_1859 ?_
    refine gl_sld hL dL_law_1860 (nI_add _ _) (by omega) ?_
    refine gl_aload_n dL_law_1861 rfl (by rfl) ?_
    refine gl_iload dL_law_1862 (by rfl) ?_
    refine gl_iconst (nI 2) dL_law_1864 (by rfl) ?_
    refine gl_iadd dL_law_1865 ?_
    refine gl_sld hL dL_law_1866 (nI_add _ _) (by omega) ?_
    refine gl_callV_p (c_M_cell hR (by omega) ok (xs (6 * t + 1)) (xs (6 * t + 2))) dL_law_1867 (mX9_cell) rfl lL_281 iX9_cell vX9_cell (by decide) (by omega) hm rfl rfl rfl rfl (Nat.le_of_ble_eq_true rfl) (fun v8 h2 z2 => ?_)
    obtain ⟨z2, qoff2⟩ := z2
    have hP1 := hP.off qoff2 (by omega)
    have ho1 := (qoff2 114 (by omega)).trans ho
    clear hP ho
    have hP := hP1
    have ho := ho1
    clear hP1 ho1 hm
    rcases z2 with ⟨hd, rfl, hR⟩ | ⟨hd, ⟨z9, rfl⟩, hR⟩
    · obtain ⟨I8, hm⟩ := hR.hd
      refine gl_istore dL_law_1870 (by decide) ?_
      refine gl_aload_n dL_law_1872 rfl (by rfl) ?_
      refine gl_callV_e (c_M_thrown hR (by omega)) dL_law_1873 (mX9_thrown) rfl lL_124 iX9_thrown vX9_thrown (by decide) (by omega) hm rfl rfl rfl rfl (Nat.le_of_ble_eq_true rfl) ?_
      refine gl_iload dL_law_1876 (by rfl) ?_
      refine gl_icmp_eq (tgt := 1883) dL_law_1878 (by decide) (fun _ => ?_) (fun c9 => absurd rfl c9)
      refine gl_iload dL_law_1883 (by rfl) ?_
      refine gl_if_ne (tgt := 1900) dL_law_1885 (by decide) (fun c9 => absurd rfl c9) (fun _ => ?_)
      refine gl_aload_n dL_law_1888 rfl (by rfl) ?_
      refine gl_iconst (nI 0) dL_law_1889 (by rfl) ?_
      refine gl_lald dL_law_1890 (by exact ho) (by omega) (by rfl) (by omega) (by omega) ?_
      rw [hv]
      refine gl_iload dL_law_1891 (by rfl) ?_
      refine gl_i2l dL_law_1893 ?_
      refine gl_lcmp dL_law_1894 ?_
      refine gl_if_eq (tgt := 1900) dL_law_1895 (by decide) (fun _ => ?_) (fun c7 => absurd (w_lc _) c7)
      refine gl_goto (tgt := 2583) dL_law_1900 (by decide) ?_
      exact K.to ⟨hP, ⟨_, hR⟩, ⟨_, ho⟩, hby⟩ ⟨by rfl, by rfl, by rfl, by rfl, by rfl, trivial⟩ (by omega) (by omega)
    · (first | exact (hc hd).elim | exact (hd hc).elim)
  · refine gl_istore dL_law_1852 (by decide) ?_
    refine gl_aload_n dL_law_1854 rfl (by rfl) ?_
    refine gl_aload_n dL_law_1855 rfl (by rfl) ?_
    refine gl_iload dL_law_1856 (by rfl) ?_
    refine gl_iconst (nI 1) dL_law_1858 (by rfl) ?_
    refine gl_iadd dL_law_1859 ?_
    refine gl_sld hL dL_law_1860 (nI_add _ _) (by omega) ?_
    refine gl_aload_n dL_law_1861 rfl (by rfl) ?_
    refine gl_iload dL_law_1862 (by rfl) ?_
    refine gl_iconst (nI 2) dL_law_1864 (by rfl) ?_
    refine gl_iadd dL_law_1865 ?_
    refine gl_sld hL dL_law_1866 (nI_add _ _) (by omega) ?_
    refine gl_callV_p (c_M_cell hR (by omega) ok (xs (6 * t + 1)) (xs (6 * t + 2))) dL_law_1867 (mX9_cell) rfl lL_281 iX9_cell vX9_cell (by decide) (by omega) hm rfl rfl rfl rfl (Nat.le_of_ble_eq_true rfl) (fun v8 h2 z2 => ?_)
    obtain ⟨z2, qoff2⟩ := z2
    have hP1 := hP.off qoff2 (by omega)
    have ho1 := (qoff2 114 (by omega)).trans ho
    clear hP ho
    have hP := hP1
    have ho := ho1
    clear hP1 ho1 hm
    rcases z2 with ⟨hd, rfl, hR⟩ | ⟨hd, ⟨z9, rfl⟩, hR⟩
    · (first | exact (hc hd).elim | exact (hd hc).elim)
    · obtain ⟨I8, hm⟩ := hR.hd
      refine gl_istore dL_law_1870 (by decide) ?_
      refine gl_aload_n dL_law_1872 rfl (by rfl) ?_
      refine gl_callV_e (c_M_thrown hR (by omega)) dL_law_1873 (mX9_thrown) rfl lL_124 iX9_thrown vX9_thrown (by decide) (by omega) hm rfl rfl rfl rfl (Nat.le_of_ble_eq_true rfl) ?_
      refine gl_iload dL_law_1876 (by rfl) ?_
      refine gl_icmp_eq (tgt := 1883) dL_law_1878 (by decide) (fun _ => ?_) (fun c9 => absurd rfl c9)
      refine gl_iload dL_law_1883 (by rfl) ?_
      refine gl_if_ne (tgt := 1900) dL_law_1885 (by decide) (fun _ => ?_) (fun c9 => absurd c9 (by decide))
      refine gl_goto (tgt := 2583) dL_law_1900 (by decide) ?_
      exact K.to ⟨hP, ⟨_, hR⟩, ⟨_, ho⟩, hby⟩ ⟨by rfl, by rfl, by rfl, by rfl, by rfl, trivial⟩ (by omega) (by omega)

theorem w_c45 {L t kc ks : Nat} {xs : Nat → Int32} (hL : L ≤ 3072) (ht : 6 * t + 6 ≤ L) (K : w_K L xs t kc ks) {h : s_H} {π : s_Pl} (q : w_St h π) : s_GL (s_Os L xs) TL_law w_Φ 1903 (s_lvs (w_lv t)) [] h 115 (kc + 2) (ks + 12) := by
  obtain ⟨hP, ⟨t0, hR⟩, ⟨f0, ho⟩, hby⟩ := q
  obtain ⟨cnt, cp, ok⟩ := hR.ok
  have hl := hR.l
  have hlen := hR.len
  have hb := hP.1
  unfold s_po at hb
  refine gl_aload_n dL_law_1903 rfl (by rfl) ?_
  refine gl_aload_n dL_law_1904 rfl (by rfl) ?_
  refine gl_iload dL_law_1905 (by rfl) ?_
  refine gl_iconst (nI 1) dL_law_1907 (by rfl) ?_
  refine gl_iadd dL_law_1908 ?_
  refine gl_sld hL dL_law_1909 (nI_add _ _) (by omega) ?_
  refine gl_aload_n dL_law_1910 rfl (by rfl) ?_
  refine gl_iload dL_law_1911 (by rfl) ?_
  refine gl_iconst (nI 2) dL_law_1913 (by rfl) ?_
  refine gl_iadd dL_law_1914 ?_
  refine gl_sld hL dL_law_1915 (nI_add _ _) (by omega) ?_
  refine gl_aload_n dL_law_1916 rfl (by rfl) ?_
  refine gl_callSH (c_L_isRaised hP (by omega) ho (by omega) (by omega) ok (xs (6 * t + 1)) (xs (6 * t + 2))) dL_law_1917 (mL_isRaised) rfl lL_282 sL_isRaised (by decide) rfl rfl (Nat.le_of_ble_eq_true rfl) (by omega) (by omega) (fun v9 h1 z1 => ?_)
  obtain ⟨z1, qoff⟩ := z1
  obtain ⟨hm9, q1, q2⟩ := qoff.mid (by omega)
  have hR := (hR.off q1 (by omega)).off q2 (by omega)
  obtain ⟨I9, hm⟩ := hR.hd
  clear hP hb ho q1 q2 qoff
  rcases z1 with ⟨hc, rfl, hP, f1, ho, hv⟩ | ⟨hc, rfl, hP, f1, ho⟩
  · refine gl_istore dL_law_1920 (by decide) ?_
    refine gl_aload_n dL_law_1922 rfl (by rfl) ?_
    refine gl_aload_n dL_law_1923 rfl (by rfl) ?_
    refine gl_iload dL_law_1924 (by rfl) ?_
    refine gl_iconst (nI 1) dL_law_1926 (by rfl) ?_
    refine gl_iadd dL_law_1927 ?_
    refine gl_sld hL dL_law_1928 (nI_add _ _) (by omega) ?_
    refine gl_aload_n dL_law_1929 rfl (by rfl) ?_
    refine gl_iload dL_law_1930 (by rfl) ?_
    refine gl_iconst (nI 2) dL_law_1932 (by rfl) ?_
    refine gl_iadd dL_law_1933 ?_
    refine gl_sld hL dL_law_1934 (nI_add _ _) (by omega) ?_
    refine gl_callV_p (c_M_isRaised hR (by omega) ok (xs (6 * t + 1)) (xs (6 * t + 2))) dL_law_1935 (mX9_isRaised) rfl lL_284 iX9_isRaised vX9_isRaised (by decide) (by omega) hm rfl rfl rfl rfl (Nat.le_of_ble_eq_true rfl) (fun v8 h2 z2 => ?_)
    obtain ⟨z2, qoff2⟩ := z2
    have hP1 := hP.off qoff2 (by omega)
    have ho1 := (qoff2 114 (by omega)).trans ho
    clear hP ho
    have hP := hP1
    have ho := ho1
    clear hP1 ho1 hm
    rcases z2 with ⟨hd, rfl, hR⟩ | ⟨hd, ⟨z9, rfl⟩, hR⟩
    · obtain ⟨I8, hm⟩ := hR.hd
      refine gl_istore dL_law_1938 (by decide) ?_
      refine gl_aload_n dL_law_1940 rfl (by rfl) ?_
      refine gl_callV_e (c_M_thrown hR (by omega)) dL_law_1941 (mX9_thrown) rfl lL_124 iX9_thrown vX9_thrown (by decide) (by omega) hm rfl rfl rfl rfl (Nat.le_of_ble_eq_true rfl) ?_
      refine gl_iload dL_law_1944 (by rfl) ?_
      refine gl_icmp_eq (tgt := 1951) dL_law_1946 (by decide) (fun _ => ?_) (fun c9 => absurd rfl c9)
      refine gl_iload dL_law_1951 (by rfl) ?_
      refine gl_if_ne (tgt := 1975) dL_law_1953 (by decide) (fun c9 => absurd rfl c9) (fun _ => ?_)
      refine gl_aload_n dL_law_1956 rfl (by rfl) ?_
      refine gl_iconst (nI 0) dL_law_1957 (by rfl) ?_
      refine gl_lald dL_law_1958 (by exact ho) (by omega) (by rfl) (by omega) (by omega) ?_
      rw [hv]
      refine gl_iload dL_law_1959 (by rfl) ?_
      refine gl_if_eq (tgt := 1968) dL_law_1961 (by decide) (fun c8 => ?_) (fun c8 => ?_)
      · rw [c8]
        refine gl_lconst 0 dL_law_1968 (by rfl) ?_
        refine gl_lcmp dL_law_1969 ?_
        refine gl_if_eq (tgt := 1975) dL_law_1970 (by decide) (fun _ => ?_) (fun c7 => absurd (by decide) c7)
        refine gl_goto (tgt := 2583) dL_law_1975 (by decide) ?_
        exact K.to ⟨hP, ⟨_, hR⟩, ⟨_, ho⟩, hby⟩ ⟨by rfl, by rfl, by rfl, by rfl, by rfl, trivial⟩ (by omega) (by omega)
      · rw [w_01 _ c8 (by split <;> simp)]
        refine gl_lconst 1 dL_law_1964 (by rfl) ?_
        refine gl_goto (tgt := 1969) dL_law_1965 (by decide) ?_
        refine gl_lcmp dL_law_1969 ?_
        refine gl_if_eq (tgt := 1975) dL_law_1970 (by decide) (fun _ => ?_) (fun c7 => absurd (by decide) c7)
        refine gl_goto (tgt := 2583) dL_law_1975 (by decide) ?_
        exact K.to ⟨hP, ⟨_, hR⟩, ⟨_, ho⟩, hby⟩ ⟨by rfl, by rfl, by rfl, by rfl, by rfl, trivial⟩ (by omega) (by omega)
    · (first | exact (hc hd).elim | exact (hd hc).elim)
  · refine gl_istore dL_law_1920 (by decide) ?_
    refine gl_aload_n dL_law_1922 rfl (by rfl) ?_
    refine gl_aload_n dL_law_1923 rfl (by rfl) ?_
    refine gl_iload dL_law_1924 (by rfl) ?_
    refine gl_iconst (nI 1) dL_law_1926 (by rfl) ?_
    refine gl_iadd dL_law_1927 ?_
    refine gl_sld hL dL_law_1928 (nI_add _ _) (by omega) ?_
    refine gl_aload_n dL_law_1929 rfl (by rfl) ?_
    refine gl_iload dL_law_1930 (by rfl) ?_
    refine gl_iconst (nI 2) dL_law_1932 (by rfl) ?_
    refine gl_iadd dL_law_1933 ?_
    refine gl_sld hL dL_law_1934 (nI_add _ _) (by omega) ?_
    refine gl_callV_p (c_M_isRaised hR (by omega) ok (xs (6 * t + 1)) (xs (6 * t + 2))) dL_law_1935 (mX9_isRaised) rfl lL_284 iX9_isRaised vX9_isRaised (by decide) (by omega) hm rfl rfl rfl rfl (Nat.le_of_ble_eq_true rfl) (fun v8 h2 z2 => ?_)
    obtain ⟨z2, qoff2⟩ := z2
    have hP1 := hP.off qoff2 (by omega)
    have ho1 := (qoff2 114 (by omega)).trans ho
    clear hP ho
    have hP := hP1
    have ho := ho1
    clear hP1 ho1 hm
    rcases z2 with ⟨hd, rfl, hR⟩ | ⟨hd, ⟨z9, rfl⟩, hR⟩
    · (first | exact (hc hd).elim | exact (hd hc).elim)
    · obtain ⟨I8, hm⟩ := hR.hd
      refine gl_istore dL_law_1938 (by decide) ?_
      refine gl_aload_n dL_law_1940 rfl (by rfl) ?_
      refine gl_callV_e (c_M_thrown hR (by omega)) dL_law_1941 (mX9_thrown) rfl lL_124 iX9_thrown vX9_thrown (by decide) (by omega) hm rfl rfl rfl rfl (Nat.le_of_ble_eq_true rfl) ?_
      refine gl_iload dL_law_1944 (by rfl) ?_
      refine gl_icmp_eq (tgt := 1951) dL_law_1946 (by decide) (fun _ => ?_) (fun c9 => absurd rfl c9)
      refine gl_iload dL_law_1951 (by rfl) ?_
      refine gl_if_ne (tgt := 1975) dL_law_1953 (by decide) (fun _ => ?_) (fun c9 => absurd c9 (by decide))
      refine gl_goto (tgt := 2583) dL_law_1975 (by decide) ?_
      exact K.to ⟨hP, ⟨_, hR⟩, ⟨_, ho⟩, hby⟩ ⟨by rfl, by rfl, by rfl, by rfl, by rfl, trivial⟩ (by omega) (by omega)

theorem w_c46 {L t kc ks : Nat} {xs : Nat → Int32} (hL : L ≤ 3072) (ht : 6 * t + 6 ≤ L) (K : w_K L xs t kc ks) {h : s_H} {π : s_Pl} (q : w_St h π) : s_GL (s_Os L xs) TL_law w_Φ 1978 (s_lvs (w_lv t)) [] h 115 (kc + 2) (ks + 12) := by
  obtain ⟨hP, ⟨t0, hR⟩, ⟨f0, ho⟩, hby⟩ := q
  obtain ⟨cnt, cp, ok⟩ := hR.ok
  have hl := hR.l
  have hlen := hR.len
  have hb := hP.1
  unfold s_po at hb
  refine gl_aload_n dL_law_1978 rfl (by rfl) ?_
  refine gl_callV_p (c_X8_greedyPlan hP (by omega) ok) dL_law_1979 (mX8_greedyPlan) rfl lL_285 iX8_greedyPlan vX8_greedyPlan (by decide) (by omega) hb rfl rfl rfl rfl (Nat.le_of_ble_eq_true rfl) (fun v9 h1 z1 => ?_)
  have ho0 := ho
  have hR0 := hR
  obtain ⟨rfl, hP, qoff⟩ := z1
  have ho := (qoff 114 (by omega)).trans ho0
  have hR := hR0.off qoff (by omega)
  clear ho0 hR0
  obtain ⟨I9, hm⟩ := hR.hd
  refine gl_aload_n dL_law_1982 rfl (by rfl) ?_
  refine gl_callV_p (c_M_greedyPlan hR (by omega) ok) dL_law_1983 (mX9_greedyPlan) rfl lL_288 iX9_greedyPlan vX9_greedyPlan (by decide) (by omega) hm rfl rfl rfl rfl (Nat.le_of_ble_eq_true rfl) (fun v9 h2 z2 => ?_)
  have ho1 := ho
  have hP1 := hP
  obtain ⟨rfl, hR, qoff2⟩ := z2
  have ho := (qoff2 114 (by omega)).trans ho1
  have hP := hP1.off qoff2 (by omega)
  clear ho1 hP1
  refine gl_icmp_eq (tgt := 2583) dL_law_1986 (by decide) (fun _ => ?_) (fun c9 => absurd rfl c9)
  exact K.to ⟨hP, ⟨_, hR⟩, ⟨_, ho⟩, hby⟩ ⟨by rfl, by rfl, by rfl, by rfl, by rfl, trivial⟩ (by omega) (by omega)

theorem w_c47 {L t kc ks : Nat} {xs : Nat → Int32} (hL : L ≤ 3072) (ht : 6 * t + 6 ≤ L) (K : w_K L xs t kc ks) {h : s_H} {π : s_Pl} (q : w_St h π) : s_GL (s_Os L xs) TL_law w_Φ 1991 (s_lvs (w_lv t)) [] h 115 (kc + 2) (ks + 12) := by
  obtain ⟨hP, ⟨t0, hR⟩, ⟨f0, ho⟩, hby⟩ := q
  obtain ⟨cnt, cp, ok⟩ := hR.ok
  have hl := hR.l
  have hlen := hR.len
  have hb := hP.1
  unfold s_po at hb
  refine gl_aload_n dL_law_1991 rfl (by rfl) ?_
  refine gl_callV_p (c_X8_greedyWeight hP (by omega) ok) dL_law_1992 (mX8_greedyWeight) rfl lL_289 iX8_greedyWeight vX8_greedyWeight (by decide) (by omega) hb rfl rfl rfl rfl (Nat.le_of_ble_eq_true rfl) (fun v9 h1 z1 => ?_)
  have ho0 := ho
  have hR0 := hR
  obtain ⟨rfl, hP, qoff⟩ := z1
  have ho := (qoff 114 (by omega)).trans ho0
  have hR := hR0.off qoff (by omega)
  clear ho0 hR0
  obtain ⟨I9, hm⟩ := hR.hd
  refine gl_aload_n dL_law_1995 rfl (by rfl) ?_
  refine gl_callV_p (c_M_greedyWeight hR (by omega) ok) dL_law_1996 (mX9_greedyWeight) rfl lL_292 iX9_greedyWeight vX9_greedyWeight (by decide) (by omega) hm rfl rfl rfl rfl (Nat.le_of_ble_eq_true rfl) (fun v9 h2 z2 => ?_)
  have ho1 := ho
  have hP1 := hP
  obtain ⟨rfl, hR, qoff2⟩ := z2
  have ho := (qoff2 114 (by omega)).trans ho1
  have hP := hP1.off qoff2 (by omega)
  clear ho1 hP1
  refine gl_icmp_eq (tgt := 2583) dL_law_1999 (by decide) (fun _ => ?_) (fun c9 => absurd rfl c9)
  exact K.to ⟨hP, ⟨_, hR⟩, ⟨_, ho⟩, hby⟩ ⟨by rfl, by rfl, by rfl, by rfl, by rfl, trivial⟩ (by omega) (by omega)

theorem w_c48 {L t kc ks : Nat} {xs : Nat → Int32} (hL : L ≤ 3072) (ht : 6 * t + 6 ≤ L) (K : w_K L xs t kc ks) {h : s_H} {π : s_Pl} (q : w_St h π) : s_GL (s_Os L xs) TL_law w_Φ 2004 (s_lvs (w_lv t)) [] h 115 (kc + 2) (ks + 12) := by
  obtain ⟨hP, ⟨t0, hR⟩, ⟨f0, ho⟩, hby⟩ := q
  obtain ⟨cnt, cp, ok⟩ := hR.ok
  have hl := hR.l
  have hlen := hR.len
  have hb := hP.1
  unfold s_po at hb
  refine gl_aload_n dL_law_2004 rfl (by rfl) ?_
  refine gl_callV_p (c_X8_upperBound hP (by omega) ok) dL_law_2005 (mX8_upperBound) rfl lL_293 iX8_upperBound vX8_upperBound (by decide) (by omega) hb rfl rfl rfl rfl (Nat.le_of_ble_eq_true rfl) (fun v9 h1 z1 => ?_)
  have ho0 := ho
  have hR0 := hR
  obtain ⟨rfl, hP, qoff⟩ := z1
  have ho := (qoff 114 (by omega)).trans ho0
  have hR := hR0.off qoff (by omega)
  clear ho0 hR0
  obtain ⟨I9, hm⟩ := hR.hd
  refine gl_aload_n dL_law_2008 rfl (by rfl) ?_
  refine gl_callV_p (c_M_upperBound hR (by omega) ok) dL_law_2009 (mX9_upperBound) rfl lL_296 iX9_upperBound vX9_upperBound (by decide) (by omega) hm rfl rfl rfl rfl (Nat.le_of_ble_eq_true rfl) (fun v9 h2 z2 => ?_)
  have ho1 := ho
  have hP1 := hP
  obtain ⟨rfl, hR, qoff2⟩ := z2
  have ho := (qoff2 114 (by omega)).trans ho1
  have hP := hP1.off qoff2 (by omega)
  clear ho1 hP1
  refine gl_icmp_eq (tgt := 2583) dL_law_2012 (by decide) (fun _ => ?_) (fun c9 => absurd rfl c9)
  exact K.to ⟨hP, ⟨_, hR⟩, ⟨_, ho⟩, hby⟩ ⟨by rfl, by rfl, by rfl, by rfl, by rfl, trivial⟩ (by omega) (by omega)

theorem w_c49 {L t kc ks : Nat} {xs : Nat → Int32} (hL : L ≤ 3072) (ht : 6 * t + 6 ≤ L) (K : w_K L xs t kc ks) {h : s_H} {π : s_Pl} (q : w_St h π) : s_GL (s_Os L xs) TL_law w_Φ 2017 (s_lvs (w_lv t)) [] h 115 (kc + 2) (ks + 12) := by
  obtain ⟨hP, ⟨t0, hR⟩, ⟨f0, ho⟩, hby⟩ := q
  obtain ⟨cnt, cp, ok⟩ := hR.ok
  have hl := hR.l
  have hlen := hR.len
  have hb := hP.1
  unfold s_po at hb
  refine gl_aload_n dL_law_2017 rfl (by rfl) ?_
  refine gl_aload_n dL_law_2018 rfl (by rfl) ?_
  refine gl_iload dL_law_2019 (by rfl) ?_
  refine gl_iconst (nI 1) dL_law_2021 (by rfl) ?_
  refine gl_iadd dL_law_2022 ?_
  refine gl_sld hL dL_law_2023 (nI_add _ _) (by omega) ?_
  refine gl_aload_n dL_law_2024 rfl (by rfl) ?_
  refine gl_callSH (c_L_lossIfExcluded hP (by omega) ho (by omega) (by omega) ok (xs (6 * t + 1))) dL_law_2025 (mL_lossIfExcluded) rfl lL_297 sL_lossIfExcluded (by decide) rfl rfl (Nat.le_of_ble_eq_true rfl) (by omega) (by omega) (fun v9 h1 z1 => ?_)
  obtain ⟨z1, qoff⟩ := z1
  obtain ⟨hm9, q1, q2⟩ := qoff.mid (by omega)
  have hR := (hR.off q1 (by omega)).off q2 (by omega)
  obtain ⟨I9, hm⟩ := hR.hd
  clear hP hb ho q1 q2 qoff
  rcases z1 with ⟨hc, rfl, hP, f1, ho, hv⟩ | ⟨hc, rfl, hP, f1, ho⟩
  · refine gl_istore dL_law_2028 (by decide) ?_
    refine gl_aload_n dL_law_2030 rfl (by rfl) ?_
    refine gl_aload_n dL_law_2031 rfl (by rfl) ?_
    refine gl_iload dL_law_2032 (by rfl) ?_
    refine gl_iconst (nI 1) dL_law_2034 (by rfl) ?_
    refine gl_iadd dL_law_2035 ?_
    refine gl_sld hL dL_law_2036 (nI_add _ _) (by omega) ?_
    refine gl_callV_p (c_M_lossIfExcluded hR (by omega) ok (xs (6 * t + 1))) dL_law_2037 (mX9_lossIfExcluded) rfl lL_299 iX9_lossIfExcluded vX9_lossIfExcluded (by decide) (by omega) hm rfl rfl rfl rfl (Nat.le_of_ble_eq_true rfl) (fun v8 h2 z2 => ?_)
    obtain ⟨z2, qoff2⟩ := z2
    have hP1 := hP.off qoff2 (by omega)
    have ho1 := (qoff2 114 (by omega)).trans ho
    clear hP ho
    have hP := hP1
    have ho := ho1
    clear hP1 ho1 hm
    rcases z2 with ⟨hd, rfl, hR⟩ | ⟨hd, ⟨z9, rfl⟩, hR⟩
    · obtain ⟨I8, hm⟩ := hR.hd
      refine gl_istore dL_law_2040 (by decide) ?_
      refine gl_aload_n dL_law_2042 rfl (by rfl) ?_
      refine gl_callV_e (c_M_thrown hR (by omega)) dL_law_2043 (mX9_thrown) rfl lL_124 iX9_thrown vX9_thrown (by decide) (by omega) hm rfl rfl rfl rfl (Nat.le_of_ble_eq_true rfl) ?_
      refine gl_iload dL_law_2046 (by rfl) ?_
      refine gl_icmp_eq (tgt := 2053) dL_law_2048 (by decide) (fun _ => ?_) (fun c9 => absurd rfl c9)
      refine gl_iload dL_law_2053 (by rfl) ?_
      refine gl_if_ne (tgt := 2070) dL_law_2055 (by decide) (fun c9 => absurd rfl c9) (fun _ => ?_)
      refine gl_aload_n dL_law_2058 rfl (by rfl) ?_
      refine gl_iconst (nI 0) dL_law_2059 (by rfl) ?_
      refine gl_lald dL_law_2060 (by exact ho) (by omega) (by rfl) (by omega) (by omega) ?_
      rw [hv]
      refine gl_iload dL_law_2061 (by rfl) ?_
      refine gl_i2l dL_law_2063 ?_
      refine gl_lcmp dL_law_2064 ?_
      refine gl_if_eq (tgt := 2070) dL_law_2065 (by decide) (fun _ => ?_) (fun c7 => absurd (w_lc _) c7)
      refine gl_goto (tgt := 2583) dL_law_2070 (by decide) ?_
      exact K.to ⟨hP, ⟨_, hR⟩, ⟨_, ho⟩, hby⟩ ⟨by rfl, by rfl, by rfl, by rfl, by rfl, trivial⟩ (by omega) (by omega)
    · (first | exact (hc hd).elim | exact (hd hc).elim)
  · refine gl_istore dL_law_2028 (by decide) ?_
    refine gl_aload_n dL_law_2030 rfl (by rfl) ?_
    refine gl_aload_n dL_law_2031 rfl (by rfl) ?_
    refine gl_iload dL_law_2032 (by rfl) ?_
    refine gl_iconst (nI 1) dL_law_2034 (by rfl) ?_
    refine gl_iadd dL_law_2035 ?_
    refine gl_sld hL dL_law_2036 (nI_add _ _) (by omega) ?_
    refine gl_callV_p (c_M_lossIfExcluded hR (by omega) ok (xs (6 * t + 1))) dL_law_2037 (mX9_lossIfExcluded) rfl lL_299 iX9_lossIfExcluded vX9_lossIfExcluded (by decide) (by omega) hm rfl rfl rfl rfl (Nat.le_of_ble_eq_true rfl) (fun v8 h2 z2 => ?_)
    obtain ⟨z2, qoff2⟩ := z2
    have hP1 := hP.off qoff2 (by omega)
    have ho1 := (qoff2 114 (by omega)).trans ho
    clear hP ho
    have hP := hP1
    have ho := ho1
    clear hP1 ho1 hm
    rcases z2 with ⟨hd, rfl, hR⟩ | ⟨hd, ⟨z9, rfl⟩, hR⟩
    · (first | exact (hc hd).elim | exact (hd hc).elim)
    · obtain ⟨I8, hm⟩ := hR.hd
      refine gl_istore dL_law_2040 (by decide) ?_
      refine gl_aload_n dL_law_2042 rfl (by rfl) ?_
      refine gl_callV_e (c_M_thrown hR (by omega)) dL_law_2043 (mX9_thrown) rfl lL_124 iX9_thrown vX9_thrown (by decide) (by omega) hm rfl rfl rfl rfl (Nat.le_of_ble_eq_true rfl) ?_
      refine gl_iload dL_law_2046 (by rfl) ?_
      refine gl_icmp_eq (tgt := 2053) dL_law_2048 (by decide) (fun _ => ?_) (fun c9 => absurd rfl c9)
      refine gl_iload dL_law_2053 (by rfl) ?_
      refine gl_if_ne (tgt := 2070) dL_law_2055 (by decide) (fun _ => ?_) (fun c9 => absurd c9 (by decide))
      refine gl_goto (tgt := 2583) dL_law_2070 (by decide) ?_
      exact K.to ⟨hP, ⟨_, hR⟩, ⟨_, ho⟩, hby⟩ ⟨by rfl, by rfl, by rfl, by rfl, by rfl, trivial⟩ (by omega) (by omega)
