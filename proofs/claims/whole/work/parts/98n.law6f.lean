/-! THE LAW'S CASES 50 .. 63 (written by wip/src/law5.py) -/
theorem w_c50 {L t kc ks : Nat} {xs : Nat → Int32} (hL : L ≤ 3072) (ht : 6 * t + 6 ≤ L) (K : w_K L xs t kc ks) {h : s_H} {π : s_Pl} (q : w_St h π) : s_GL (s_Os L xs) TL_law w_Φ 2073 (s_lvs (w_lv t)) [] h 115 (kc + 2) (ks + 12) := by
  obtain ⟨hP, ⟨t0, hR⟩, ⟨f0, ho⟩, hby⟩ := q
  obtain ⟨cnt, cp, ok⟩ := hR.ok
  have hl := hR.l
  have hlen := hR.len
  have hb := hP.1
  unfold s_po at hb
  refine gl_aload_n dL_law_2073 rfl (by rfl) ?_
  refine gl_aload_n dL_law_2074 rfl (by rfl) ?_
  refine gl_iload dL_law_2075 (by rfl) ?_
  refine gl_iconst (nI 1) dL_law_2077 (by rfl) ?_
  refine gl_iadd dL_law_2078 ?_
  refine gl_sld hL dL_law_2079 (nI_add _ _) (by omega) ?_
  refine gl_aload_n dL_law_2080 rfl (by rfl) ?_
  refine gl_callSH (c_L_lossIfPinned hP (by omega) ho (by omega) (by omega) ok (xs (6 * t + 1))) dL_law_2081 (mL_lossIfPinned) rfl lL_300 sL_lossIfPinned (by decide) rfl rfl (Nat.le_of_ble_eq_true rfl) (by omega) (by omega) (fun v9 h1 z1 => ?_)
  obtain ⟨z1, qoff⟩ := z1
  obtain ⟨hm9, q1, q2⟩ := qoff.mid (by omega)
  have hR := (hR.off q1 (by omega)).off q2 (by omega)
  obtain ⟨I9, hm⟩ := hR.hd
  clear hP hb ho q1 q2 qoff
  rcases z1 with ⟨hc, rfl, hP, f1, ho, hv⟩ | ⟨hc, rfl, hP, f1, ho⟩
  · refine gl_istore dL_law_2084 (by decide) ?_
    refine gl_aload_n dL_law_2086 rfl (by rfl) ?_
    refine gl_aload_n dL_law_2087 rfl (by rfl) ?_
    refine gl_iload dL_law_2088 (by rfl) ?_
    refine gl_iconst (nI 1) dL_law_2090 (by rfl) ?_
    refine gl_iadd dL_law_2091 ?_
    refine gl_sld hL dL_law_2092 (nI_add _ _) (by omega) ?_
    refine gl_callV_p (c_M_lossIfPinned hR (by omega) ok (xs (6 * t + 1))) dL_law_2093 (mX9_lossIfPinned) rfl lL_302 iX9_lossIfPinned vX9_lossIfPinned (by decide) (by omega) hm rfl rfl rfl rfl (Nat.le_of_ble_eq_true rfl) (fun v8 h2 z2 => ?_)
    obtain ⟨z2, qoff2⟩ := z2
    have hP1 := hP.off qoff2 (by omega)
    have ho1 := (qoff2 114 (by omega)).trans ho
    clear hP ho
    have hP := hP1
    have ho := ho1
    clear hP1 ho1 hm
    rcases z2 with ⟨hd, rfl, hR⟩ | ⟨hd, ⟨z9, rfl⟩, hR⟩
    · obtain ⟨I8, hm⟩ := hR.hd
      refine gl_istore dL_law_2096 (by decide) ?_
      refine gl_aload_n dL_law_2098 rfl (by rfl) ?_
      refine gl_callV_e (c_M_thrown hR (by omega)) dL_law_2099 (mX9_thrown) rfl lL_124 iX9_thrown vX9_thrown (by decide) (by omega) hm rfl rfl rfl rfl (Nat.le_of_ble_eq_true rfl) ?_
      refine gl_iload dL_law_2102 (by rfl) ?_
      refine gl_icmp_eq (tgt := 2109) dL_law_2104 (by decide) (fun _ => ?_) (fun c9 => absurd rfl c9)
      refine gl_iload dL_law_2109 (by rfl) ?_
      refine gl_if_ne (tgt := 2126) dL_law_2111 (by decide) (fun c9 => absurd rfl c9) (fun _ => ?_)
      refine gl_aload_n dL_law_2114 rfl (by rfl) ?_
      refine gl_iconst (nI 0) dL_law_2115 (by rfl) ?_
      refine gl_lald dL_law_2116 (by exact ho) (by omega) (by rfl) (by omega) (by omega) ?_
      rw [hv]
      refine gl_iload dL_law_2117 (by rfl) ?_
      refine gl_i2l dL_law_2119 ?_
      refine gl_lcmp dL_law_2120 ?_
      refine gl_if_eq (tgt := 2126) dL_law_2121 (by decide) (fun _ => ?_) (fun c7 => absurd (w_lc _) c7)
      refine gl_goto (tgt := 2583) dL_law_2126 (by decide) ?_
      exact K.to ⟨hP, ⟨_, hR⟩, ⟨_, ho⟩, hby⟩ ⟨by rfl, by rfl, by rfl, by rfl, by rfl, trivial⟩ (by omega) (by omega)
    · (first | exact (hc hd).elim | exact (hd hc).elim)
  · refine gl_istore dL_law_2084 (by decide) ?_
    refine gl_aload_n dL_law_2086 rfl (by rfl) ?_
    refine gl_aload_n dL_law_2087 rfl (by rfl) ?_
    refine gl_iload dL_law_2088 (by rfl) ?_
    refine gl_iconst (nI 1) dL_law_2090 (by rfl) ?_
    refine gl_iadd dL_law_2091 ?_
    refine gl_sld hL dL_law_2092 (nI_add _ _) (by omega) ?_
    refine gl_callV_p (c_M_lossIfPinned hR (by omega) ok (xs (6 * t + 1))) dL_law_2093 (mX9_lossIfPinned) rfl lL_302 iX9_lossIfPinned vX9_lossIfPinned (by decide) (by omega) hm rfl rfl rfl rfl (Nat.le_of_ble_eq_true rfl) (fun v8 h2 z2 => ?_)
    obtain ⟨z2, qoff2⟩ := z2
    have hP1 := hP.off qoff2 (by omega)
    have ho1 := (qoff2 114 (by omega)).trans ho
    clear hP ho
    have hP := hP1
    have ho := ho1
    clear hP1 ho1 hm
    rcases z2 with ⟨hd, rfl, hR⟩ | ⟨hd, ⟨z9, rfl⟩, hR⟩
    · (first | exact (hc hd).elim | exact (hd hc).elim)
    · obtain ⟨I8, hm⟩ := hR.hd
      refine gl_istore dL_law_2096 (by decide) ?_
      refine gl_aload_n dL_law_2098 rfl (by rfl) ?_
      refine gl_callV_e (c_M_thrown hR (by omega)) dL_law_2099 (mX9_thrown) rfl lL_124 iX9_thrown vX9_thrown (by decide) (by omega) hm rfl rfl rfl rfl (Nat.le_of_ble_eq_true rfl) ?_
      refine gl_iload dL_law_2102 (by rfl) ?_
      refine gl_icmp_eq (tgt := 2109) dL_law_2104 (by decide) (fun _ => ?_) (fun c9 => absurd rfl c9)
      refine gl_iload dL_law_2109 (by rfl) ?_
      refine gl_if_ne (tgt := 2126) dL_law_2111 (by decide) (fun _ => ?_) (fun c9 => absurd c9 (by decide))
      refine gl_goto (tgt := 2583) dL_law_2126 (by decide) ?_
      exact K.to ⟨hP, ⟨_, hR⟩, ⟨_, ho⟩, hby⟩ ⟨by rfl, by rfl, by rfl, by rfl, by rfl, trivial⟩ (by omega) (by omega)

theorem w_c51 {L t kc ks : Nat} {xs : Nat → Int32} (hL : L ≤ 3072) (ht : 6 * t + 6 ≤ L) (K : w_K L xs t kc ks) {h : s_H} {π : s_Pl} (q : w_St h π) : s_GL (s_Os L xs) TL_law w_Φ 2129 (s_lvs (w_lv t)) [] h 115 (kc + 2) (ks + 12) := by
  obtain ⟨hP, ⟨t0, hR⟩, ⟨f0, ho⟩, hby⟩ := q
  obtain ⟨cnt, cp, ok⟩ := hR.ok
  have hl := hR.l
  have hlen := hR.len
  have hb := hP.1
  unfold s_po at hb
  refine gl_aload_n dL_law_2129 rfl (by rfl) ?_
  refine gl_aload_n dL_law_2130 rfl (by rfl) ?_
  refine gl_iload dL_law_2131 (by rfl) ?_
  refine gl_iconst (nI 1) dL_law_2133 (by rfl) ?_
  refine gl_iadd dL_law_2134 ?_
  refine gl_sld hL dL_law_2135 (nI_add _ _) (by omega) ?_
  refine gl_aload_n dL_law_2136 rfl (by rfl) ?_
  refine gl_callSH (c_L_valueNeeded hP (by omega) ho (by omega) (by omega) ok (xs (6 * t + 1))) dL_law_2137 (mL_valueNeeded) rfl lL_303 sL_valueNeeded (by decide) rfl rfl (Nat.le_of_ble_eq_true rfl) (by omega) (by omega) (fun v9 h1 z1 => ?_)
  obtain ⟨z1, qoff⟩ := z1
  obtain ⟨hm9, q1, q2⟩ := qoff.mid (by omega)
  have hR := (hR.off q1 (by omega)).off q2 (by omega)
  obtain ⟨I9, hm⟩ := hR.hd
  clear hP hb ho q1 q2 qoff
  rcases z1 with ⟨hc, rfl, hP, f1, ho, hv⟩ | ⟨hc, rfl, hP, f1, ho⟩
  · refine gl_istore dL_law_2140 (by decide) ?_
    refine gl_aload_n dL_law_2142 rfl (by rfl) ?_
    refine gl_aload_n dL_law_2143 rfl (by rfl) ?_
    refine gl_iload dL_law_2144 (by rfl) ?_
    refine gl_iconst (nI 1) dL_law_2146 (by rfl) ?_
    refine gl_iadd dL_law_2147 ?_
    refine gl_sld hL dL_law_2148 (nI_add _ _) (by omega) ?_
    refine gl_callV_p (c_M_valueNeeded hR (by omega) ok (xs (6 * t + 1))) dL_law_2149 (mX9_valueNeeded) rfl lL_305 iX9_valueNeeded vX9_valueNeeded (by decide) (by omega) hm rfl rfl rfl rfl (Nat.le_of_ble_eq_true rfl) (fun v8 h2 z2 => ?_)
    obtain ⟨z2, qoff2⟩ := z2
    have hP1 := hP.off qoff2 (by omega)
    have ho1 := (qoff2 114 (by omega)).trans ho
    clear hP ho
    have hP := hP1
    have ho := ho1
    clear hP1 ho1 hm
    rcases z2 with ⟨hd, rfl, hR⟩ | ⟨hd, ⟨z9, rfl⟩, hR⟩
    · obtain ⟨I8, hm⟩ := hR.hd
      refine gl_istore dL_law_2152 (by decide) ?_
      refine gl_aload_n dL_law_2154 rfl (by rfl) ?_
      refine gl_callV_e (c_M_thrown hR (by omega)) dL_law_2155 (mX9_thrown) rfl lL_124 iX9_thrown vX9_thrown (by decide) (by omega) hm rfl rfl rfl rfl (Nat.le_of_ble_eq_true rfl) ?_
      refine gl_iload dL_law_2158 (by rfl) ?_
      refine gl_icmp_eq (tgt := 2165) dL_law_2160 (by decide) (fun _ => ?_) (fun c9 => absurd rfl c9)
      refine gl_iload dL_law_2165 (by rfl) ?_
      refine gl_if_ne (tgt := 2182) dL_law_2167 (by decide) (fun c9 => absurd rfl c9) (fun _ => ?_)
      refine gl_aload_n dL_law_2170 rfl (by rfl) ?_
      refine gl_iconst (nI 0) dL_law_2171 (by rfl) ?_
      refine gl_lald dL_law_2172 (by exact ho) (by omega) (by rfl) (by omega) (by omega) ?_
      rw [hv]
      refine gl_iload dL_law_2173 (by rfl) ?_
      refine gl_i2l dL_law_2175 ?_
      refine gl_lcmp dL_law_2176 ?_
      refine gl_if_eq (tgt := 2182) dL_law_2177 (by decide) (fun _ => ?_) (fun c7 => absurd (w_lc _) c7)
      refine gl_goto (tgt := 2583) dL_law_2182 (by decide) ?_
      exact K.to ⟨hP, ⟨_, hR⟩, ⟨_, ho⟩, hby⟩ ⟨by rfl, by rfl, by rfl, by rfl, by rfl, trivial⟩ (by omega) (by omega)
    · (first | exact (hc hd).elim | exact (hd hc).elim)
  · refine gl_istore dL_law_2140 (by decide) ?_
    refine gl_aload_n dL_law_2142 rfl (by rfl) ?_
    refine gl_aload_n dL_law_2143 rfl (by rfl) ?_
    refine gl_iload dL_law_2144 (by rfl) ?_
    refine gl_iconst (nI 1) dL_law_2146 (by rfl) ?_
    refine gl_iadd dL_law_2147 ?_
    refine gl_sld hL dL_law_2148 (nI_add _ _) (by omega) ?_
    refine gl_callV_p (c_M_valueNeeded hR (by omega) ok (xs (6 * t + 1))) dL_law_2149 (mX9_valueNeeded) rfl lL_305 iX9_valueNeeded vX9_valueNeeded (by decide) (by omega) hm rfl rfl rfl rfl (Nat.le_of_ble_eq_true rfl) (fun v8 h2 z2 => ?_)
    obtain ⟨z2, qoff2⟩ := z2
    have hP1 := hP.off qoff2 (by omega)
    have ho1 := (qoff2 114 (by omega)).trans ho
    clear hP ho
    have hP := hP1
    have ho := ho1
    clear hP1 ho1 hm
    rcases z2 with ⟨hd, rfl, hR⟩ | ⟨hd, ⟨z9, rfl⟩, hR⟩
    · (first | exact (hc hd).elim | exact (hd hc).elim)
    · obtain ⟨I8, hm⟩ := hR.hd
      refine gl_istore dL_law_2152 (by decide) ?_
      refine gl_aload_n dL_law_2154 rfl (by rfl) ?_
      refine gl_callV_e (c_M_thrown hR (by omega)) dL_law_2155 (mX9_thrown) rfl lL_124 iX9_thrown vX9_thrown (by decide) (by omega) hm rfl rfl rfl rfl (Nat.le_of_ble_eq_true rfl) ?_
      refine gl_iload dL_law_2158 (by rfl) ?_
      refine gl_icmp_eq (tgt := 2165) dL_law_2160 (by decide) (fun _ => ?_) (fun c9 => absurd rfl c9)
      refine gl_iload dL_law_2165 (by rfl) ?_
      refine gl_if_ne (tgt := 2182) dL_law_2167 (by decide) (fun _ => ?_) (fun c9 => absurd c9 (by decide))
      refine gl_goto (tgt := 2583) dL_law_2182 (by decide) ?_
      exact K.to ⟨hP, ⟨_, hR⟩, ⟨_, ho⟩, hby⟩ ⟨by rfl, by rfl, by rfl, by rfl, by rfl, trivial⟩ (by omega) (by omega)

theorem w_c52 {L t kc ks : Nat} {xs : Nat → Int32} (hL : L ≤ 3072) (ht : 6 * t + 6 ≤ L) (K : w_K L xs t kc ks) {h : s_H} {π : s_Pl} (q : w_St h π) : s_GL (s_Os L xs) TL_law w_Φ 2185 (s_lvs (w_lv t)) [] h 115 (kc + 2) (ks + 12) := by
  obtain ⟨hP, ⟨t0, hR⟩, ⟨f0, ho⟩, hby⟩ := q
  obtain ⟨cnt, cp, ok⟩ := hR.ok
  have hl := hR.l
  have hlen := hR.len
  have hb := hP.1
  unfold s_po at hb
  refine gl_aload_n dL_law_2185 rfl (by rfl) ?_
  refine gl_aload_n dL_law_2186 rfl (by rfl) ?_
  refine gl_iload dL_law_2187 (by rfl) ?_
  refine gl_iconst (nI 1) dL_law_2189 (by rfl) ?_
  refine gl_iadd dL_law_2190 ?_
  refine gl_sld hL dL_law_2191 (nI_add _ _) (by omega) ?_
  refine gl_aload_n dL_law_2192 rfl (by rfl) ?_
  refine gl_callSH (c_L_takenInBackup hP (by omega) ho (by omega) (by omega) ok (xs (6 * t + 1))) dL_law_2193 (mL_takenInBackup) rfl lL_306 sL_takenInBackup (by decide) rfl rfl (Nat.le_of_ble_eq_true rfl) (by omega) (by omega) (fun v9 h1 z1 => ?_)
  obtain ⟨z1, qoff⟩ := z1
  obtain ⟨hm9, q1, q2⟩ := qoff.mid (by omega)
  have hR := (hR.off q1 (by omega)).off q2 (by omega)
  obtain ⟨I9, hm⟩ := hR.hd
  clear hP hb ho q1 q2 qoff
  rcases z1 with ⟨hc, rfl, hP, f1, ho, hv⟩ | ⟨hc, rfl, hP, f1, ho⟩
  · refine gl_istore dL_law_2196 (by decide) ?_
    refine gl_aload_n dL_law_2198 rfl (by rfl) ?_
    refine gl_aload_n dL_law_2199 rfl (by rfl) ?_
    refine gl_iload dL_law_2200 (by rfl) ?_
    refine gl_iconst (nI 1) dL_law_2202 (by rfl) ?_
    refine gl_iadd dL_law_2203 ?_
    refine gl_sld hL dL_law_2204 (nI_add _ _) (by omega) ?_
    refine gl_callV_p (c_M_takenInBackup hR (by omega) ok (xs (6 * t + 1))) dL_law_2205 (mX9_takenInBackup) rfl lL_308 iX9_takenInBackup vX9_takenInBackup (by decide) (by omega) hm rfl rfl rfl rfl (Nat.le_of_ble_eq_true rfl) (fun v8 h2 z2 => ?_)
    obtain ⟨z2, qoff2⟩ := z2
    have hP1 := hP.off qoff2 (by omega)
    have ho1 := (qoff2 114 (by omega)).trans ho
    clear hP ho
    have hP := hP1
    have ho := ho1
    clear hP1 ho1 hm
    rcases z2 with ⟨hd, rfl, hR⟩ | ⟨hd, ⟨z9, rfl⟩, hR⟩
    · obtain ⟨I8, hm⟩ := hR.hd
      refine gl_istore dL_law_2208 (by decide) ?_
      refine gl_aload_n dL_law_2210 rfl (by rfl) ?_
      refine gl_callV_e (c_M_thrown hR (by omega)) dL_law_2211 (mX9_thrown) rfl lL_124 iX9_thrown vX9_thrown (by decide) (by omega) hm rfl rfl rfl rfl (Nat.le_of_ble_eq_true rfl) ?_
      refine gl_iload dL_law_2214 (by rfl) ?_
      refine gl_icmp_eq (tgt := 2221) dL_law_2216 (by decide) (fun _ => ?_) (fun c9 => absurd rfl c9)
      refine gl_iload dL_law_2221 (by rfl) ?_
      refine gl_if_ne (tgt := 2238) dL_law_2223 (by decide) (fun c9 => absurd rfl c9) (fun _ => ?_)
      refine gl_aload_n dL_law_2226 rfl (by rfl) ?_
      refine gl_iconst (nI 0) dL_law_2227 (by rfl) ?_
      refine gl_lald dL_law_2228 (by exact ho) (by omega) (by rfl) (by omega) (by omega) ?_
      rw [hv]
      refine gl_iload dL_law_2229 (by rfl) ?_
      refine gl_i2l dL_law_2231 ?_
      refine gl_lcmp dL_law_2232 ?_
      refine gl_if_eq (tgt := 2238) dL_law_2233 (by decide) (fun _ => ?_) (fun c7 => absurd (w_lc _) c7)
      refine gl_goto (tgt := 2583) dL_law_2238 (by decide) ?_
      exact K.to ⟨hP, ⟨_, hR⟩, ⟨_, ho⟩, hby⟩ ⟨by rfl, by rfl, by rfl, by rfl, by rfl, trivial⟩ (by omega) (by omega)
    · (first | exact (hc hd).elim | exact (hd hc).elim)
  · refine gl_istore dL_law_2196 (by decide) ?_
    refine gl_aload_n dL_law_2198 rfl (by rfl) ?_
    refine gl_aload_n dL_law_2199 rfl (by rfl) ?_
    refine gl_iload dL_law_2200 (by rfl) ?_
    refine gl_iconst (nI 1) dL_law_2202 (by rfl) ?_
    refine gl_iadd dL_law_2203 ?_
    refine gl_sld hL dL_law_2204 (nI_add _ _) (by omega) ?_
    refine gl_callV_p (c_M_takenInBackup hR (by omega) ok (xs (6 * t + 1))) dL_law_2205 (mX9_takenInBackup) rfl lL_308 iX9_takenInBackup vX9_takenInBackup (by decide) (by omega) hm rfl rfl rfl rfl (Nat.le_of_ble_eq_true rfl) (fun v8 h2 z2 => ?_)
    obtain ⟨z2, qoff2⟩ := z2
    have hP1 := hP.off qoff2 (by omega)
    have ho1 := (qoff2 114 (by omega)).trans ho
    clear hP ho
    have hP := hP1
    have ho := ho1
    clear hP1 ho1 hm
    rcases z2 with ⟨hd, rfl, hR⟩ | ⟨hd, ⟨z9, rfl⟩, hR⟩
    · (first | exact (hc hd).elim | exact (hd hc).elim)
    · obtain ⟨I8, hm⟩ := hR.hd
      refine gl_istore dL_law_2208 (by decide) ?_
      refine gl_aload_n dL_law_2210 rfl (by rfl) ?_
      refine gl_callV_e (c_M_thrown hR (by omega)) dL_law_2211 (mX9_thrown) rfl lL_124 iX9_thrown vX9_thrown (by decide) (by omega) hm rfl rfl rfl rfl (Nat.le_of_ble_eq_true rfl) ?_
      refine gl_iload dL_law_2214 (by rfl) ?_
      refine gl_icmp_eq (tgt := 2221) dL_law_2216 (by decide) (fun _ => ?_) (fun c9 => absurd rfl c9)
      refine gl_iload dL_law_2221 (by rfl) ?_
      refine gl_if_ne (tgt := 2238) dL_law_2223 (by decide) (fun _ => ?_) (fun c9 => absurd c9 (by decide))
      refine gl_goto (tgt := 2583) dL_law_2238 (by decide) ?_
      exact K.to ⟨hP, ⟨_, hR⟩, ⟨_, ho⟩, hby⟩ ⟨by rfl, by rfl, by rfl, by rfl, by rfl, trivial⟩ (by omega) (by omega)

theorem w_c53 {L t kc ks : Nat} {xs : Nat → Int32} (hL : L ≤ 3072) (ht : 6 * t + 6 ≤ L) (K : w_K L xs t kc ks) {h : s_H} {π : s_Pl} (q : w_St h π) : s_GL (s_Os L xs) TL_law w_Φ 2241 (s_lvs (w_lv t)) [] h 115 (kc + 2) (ks + 12) := by
  obtain ⟨hP, ⟨t0, hR⟩, ⟨f0, ho⟩, hby⟩ := q
  obtain ⟨cnt, cp, ok⟩ := hR.ok
  have hl := hR.l
  have hlen := hR.len
  have hb := hP.1
  unfold s_po at hb
  refine gl_aload_n dL_law_2241 rfl (by rfl) ?_
  refine gl_aload_n dL_law_2242 rfl (by rfl) ?_
  refine gl_iload dL_law_2243 (by rfl) ?_
  refine gl_iconst (nI 1) dL_law_2245 (by rfl) ?_
  refine gl_iadd dL_law_2246 ?_
  refine gl_sld hL dL_law_2247 (nI_add _ _) (by omega) ?_
  refine gl_aload_n dL_law_2248 rfl (by rfl) ?_
  refine gl_callSH (c_L_backupsUntil hP (by omega) ho (by omega) (by omega) ok (xs (6 * t + 1))) dL_law_2249 (mL_backupsUntil) rfl lL_309 sL_backupsUntil (by decide) rfl rfl (Nat.le_of_ble_eq_true rfl) (by omega) (by omega) (fun v9 h1 z1 => ?_)
  obtain ⟨z1, qoff⟩ := z1
  obtain ⟨hm9, q1, q2⟩ := qoff.mid (by omega)
  have hR := (hR.off q1 (by omega)).off q2 (by omega)
  obtain ⟨I9, hm⟩ := hR.hd
  clear hP hb ho q1 q2 qoff
  rcases z1 with ⟨hc, rfl, hP, f1, ho, hv⟩ | ⟨hc, rfl, hP, f1, ho⟩
  · refine gl_istore dL_law_2252 (by decide) ?_
    refine gl_aload_n dL_law_2254 rfl (by rfl) ?_
    refine gl_aload_n dL_law_2255 rfl (by rfl) ?_
    refine gl_iload dL_law_2256 (by rfl) ?_
    refine gl_iconst (nI 1) dL_law_2258 (by rfl) ?_
    refine gl_iadd dL_law_2259 ?_
    refine gl_sld hL dL_law_2260 (nI_add _ _) (by omega) ?_
    refine gl_callV_p (c_M_backupsUntil hR (by omega) ok (xs (6 * t + 1))) dL_law_2261 (mX9_backupsUntil) rfl lL_311 iX9_backupsUntil vX9_backupsUntil (by decide) (by omega) hm rfl rfl rfl rfl (Nat.le_of_ble_eq_true rfl) (fun v8 h2 z2 => ?_)
    obtain ⟨z2, qoff2⟩ := z2
    have hP1 := hP.off qoff2 (by omega)
    have ho1 := (qoff2 114 (by omega)).trans ho
    clear hP ho
    have hP := hP1
    have ho := ho1
    clear hP1 ho1 hm
    rcases z2 with ⟨hd, rfl, hR⟩ | ⟨hd, ⟨z9, rfl⟩, hR⟩
    · obtain ⟨I8, hm⟩ := hR.hd
      refine gl_istore dL_law_2264 (by decide) ?_
      refine gl_aload_n dL_law_2266 rfl (by rfl) ?_
      refine gl_callV_e (c_M_thrown hR (by omega)) dL_law_2267 (mX9_thrown) rfl lL_124 iX9_thrown vX9_thrown (by decide) (by omega) hm rfl rfl rfl rfl (Nat.le_of_ble_eq_true rfl) ?_
      refine gl_iload dL_law_2270 (by rfl) ?_
      refine gl_icmp_eq (tgt := 2277) dL_law_2272 (by decide) (fun _ => ?_) (fun c9 => absurd rfl c9)
      refine gl_iload dL_law_2277 (by rfl) ?_
      refine gl_if_ne (tgt := 2294) dL_law_2279 (by decide) (fun c9 => absurd rfl c9) (fun _ => ?_)
      refine gl_aload_n dL_law_2282 rfl (by rfl) ?_
      refine gl_iconst (nI 0) dL_law_2283 (by rfl) ?_
      refine gl_lald dL_law_2284 (by exact ho) (by omega) (by rfl) (by omega) (by omega) ?_
      rw [hv]
      refine gl_iload dL_law_2285 (by rfl) ?_
      refine gl_i2l dL_law_2287 ?_
      refine gl_lcmp dL_law_2288 ?_
      refine gl_if_eq (tgt := 2294) dL_law_2289 (by decide) (fun _ => ?_) (fun c7 => absurd (w_lc _) c7)
      refine gl_goto (tgt := 2583) dL_law_2294 (by decide) ?_
      exact K.to ⟨hP, ⟨_, hR⟩, ⟨_, ho⟩, hby⟩ ⟨by rfl, by rfl, by rfl, by rfl, by rfl, trivial⟩ (by omega) (by omega)
    · (first | exact (hc hd).elim | exact (hd hc).elim)
  · refine gl_istore dL_law_2252 (by decide) ?_
    refine gl_aload_n dL_law_2254 rfl (by rfl) ?_
    refine gl_aload_n dL_law_2255 rfl (by rfl) ?_
    refine gl_iload dL_law_2256 (by rfl) ?_
    refine gl_iconst (nI 1) dL_law_2258 (by rfl) ?_
    refine gl_iadd dL_law_2259 ?_
    refine gl_sld hL dL_law_2260 (nI_add _ _) (by omega) ?_
    refine gl_callV_p (c_M_backupsUntil hR (by omega) ok (xs (6 * t + 1))) dL_law_2261 (mX9_backupsUntil) rfl lL_311 iX9_backupsUntil vX9_backupsUntil (by decide) (by omega) hm rfl rfl rfl rfl (Nat.le_of_ble_eq_true rfl) (fun v8 h2 z2 => ?_)
    obtain ⟨z2, qoff2⟩ := z2
    have hP1 := hP.off qoff2 (by omega)
    have ho1 := (qoff2 114 (by omega)).trans ho
    clear hP ho
    have hP := hP1
    have ho := ho1
    clear hP1 ho1 hm
    rcases z2 with ⟨hd, rfl, hR⟩ | ⟨hd, ⟨z9, rfl⟩, hR⟩
    · (first | exact (hc hd).elim | exact (hd hc).elim)
    · obtain ⟨I8, hm⟩ := hR.hd
      refine gl_istore dL_law_2264 (by decide) ?_
      refine gl_aload_n dL_law_2266 rfl (by rfl) ?_
      refine gl_callV_e (c_M_thrown hR (by omega)) dL_law_2267 (mX9_thrown) rfl lL_124 iX9_thrown vX9_thrown (by decide) (by omega) hm rfl rfl rfl rfl (Nat.le_of_ble_eq_true rfl) ?_
      refine gl_iload dL_law_2270 (by rfl) ?_
      refine gl_icmp_eq (tgt := 2277) dL_law_2272 (by decide) (fun _ => ?_) (fun c9 => absurd rfl c9)
      refine gl_iload dL_law_2277 (by rfl) ?_
      refine gl_if_ne (tgt := 2294) dL_law_2279 (by decide) (fun _ => ?_) (fun c9 => absurd c9 (by decide))
      refine gl_goto (tgt := 2583) dL_law_2294 (by decide) ?_
      exact K.to ⟨hP, ⟨_, hR⟩, ⟨_, ho⟩, hby⟩ ⟨by rfl, by rfl, by rfl, by rfl, by rfl, trivial⟩ (by omega) (by omega)

theorem w_c54 {L t kc ks : Nat} {xs : Nat → Int32} (hL : L ≤ 3072) (ht : 6 * t + 6 ≤ L) (K : w_K L xs t kc ks) {h : s_H} {π : s_Pl} (q : w_St h π) : s_GL (s_Os L xs) TL_law w_Φ 2297 (s_lvs (w_lv t)) [] h 115 (kc + 2) (ks + 12) := by
  obtain ⟨hP, ⟨t0, hR⟩, ⟨f0, ho⟩, hby⟩ := q
  obtain ⟨cnt, cp, ok⟩ := hR.ok
  have hl := hR.l
  have hlen := hR.len
  have hb := hP.1
  unfold s_po at hb
  refine gl_aload_n dL_law_2297 rfl (by rfl) ?_
  refine gl_aload_n dL_law_2298 rfl (by rfl) ?_
  refine gl_iload dL_law_2299 (by rfl) ?_
  refine gl_iconst (nI 1) dL_law_2301 (by rfl) ?_
  refine gl_iadd dL_law_2302 ?_
  refine gl_sld hL dL_law_2303 (nI_add _ _) (by omega) ?_
  refine gl_aload_n dL_law_2304 rfl (by rfl) ?_
  refine gl_callSH (c_L_neglected hP (by omega) ho (by omega) (by omega) ok (xs (6 * t + 1))) dL_law_2305 (mL_neglected) rfl lL_312 sL_neglected (by decide) rfl rfl (Nat.le_of_ble_eq_true rfl) (by omega) (by omega) (fun v9 h1 z1 => ?_)
  obtain ⟨z1, qoff⟩ := z1
  obtain ⟨hm9, q1, q2⟩ := qoff.mid (by omega)
  have hR := (hR.off q1 (by omega)).off q2 (by omega)
  obtain ⟨I9, hm⟩ := hR.hd
  clear hP hb ho q1 q2 qoff
  rcases z1 with ⟨hc, rfl, hP, f1, ho, hv⟩ | ⟨hc, rfl, hP, f1, ho⟩
  · refine gl_istore dL_law_2308 (by decide) ?_
    refine gl_aload_n dL_law_2310 rfl (by rfl) ?_
    refine gl_aload_n dL_law_2311 rfl (by rfl) ?_
    refine gl_iload dL_law_2312 (by rfl) ?_
    refine gl_iconst (nI 1) dL_law_2314 (by rfl) ?_
    refine gl_iadd dL_law_2315 ?_
    refine gl_sld hL dL_law_2316 (nI_add _ _) (by omega) ?_
    refine gl_callV_p (c_M_neglected hR (by omega) ok (xs (6 * t + 1))) dL_law_2317 (mX9_neglected) rfl lL_314 iX9_neglected vX9_neglected (by decide) (by omega) hm rfl rfl rfl rfl (Nat.le_of_ble_eq_true rfl) (fun v8 h2 z2 => ?_)
    obtain ⟨z2, qoff2⟩ := z2
    have hP1 := hP.off qoff2 (by omega)
    have ho1 := (qoff2 114 (by omega)).trans ho
    clear hP ho
    have hP := hP1
    have ho := ho1
    clear hP1 ho1 hm
    rcases z2 with ⟨hd, rfl, hR⟩ | ⟨hd, ⟨z9, rfl⟩, hR⟩
    · obtain ⟨I8, hm⟩ := hR.hd
      refine gl_istore dL_law_2320 (by decide) ?_
      refine gl_aload_n dL_law_2322 rfl (by rfl) ?_
      refine gl_callV_e (c_M_thrown hR (by omega)) dL_law_2323 (mX9_thrown) rfl lL_124 iX9_thrown vX9_thrown (by decide) (by omega) hm rfl rfl rfl rfl (Nat.le_of_ble_eq_true rfl) ?_
      refine gl_iload dL_law_2326 (by rfl) ?_
      refine gl_icmp_eq (tgt := 2333) dL_law_2328 (by decide) (fun _ => ?_) (fun c9 => absurd rfl c9)
      refine gl_iload dL_law_2333 (by rfl) ?_
      refine gl_if_ne (tgt := 2350) dL_law_2335 (by decide) (fun c9 => absurd rfl c9) (fun _ => ?_)
      refine gl_aload_n dL_law_2338 rfl (by rfl) ?_
      refine gl_iconst (nI 0) dL_law_2339 (by rfl) ?_
      refine gl_lald dL_law_2340 (by exact ho) (by omega) (by rfl) (by omega) (by omega) ?_
      rw [hv]
      refine gl_iload dL_law_2341 (by rfl) ?_
      refine gl_i2l dL_law_2343 ?_
      refine gl_lcmp dL_law_2344 ?_
      refine gl_if_eq (tgt := 2350) dL_law_2345 (by decide) (fun _ => ?_) (fun c7 => absurd (w_lc _) c7)
      refine gl_goto (tgt := 2583) dL_law_2350 (by decide) ?_
      exact K.to ⟨hP, ⟨_, hR⟩, ⟨_, ho⟩, hby⟩ ⟨by rfl, by rfl, by rfl, by rfl, by rfl, trivial⟩ (by omega) (by omega)
    · (first | exact (hc hd).elim | exact (hd hc).elim)
  · refine gl_istore dL_law_2308 (by decide) ?_
    refine gl_aload_n dL_law_2310 rfl (by rfl) ?_
    refine gl_aload_n dL_law_2311 rfl (by rfl) ?_
    refine gl_iload dL_law_2312 (by rfl) ?_
    refine gl_iconst (nI 1) dL_law_2314 (by rfl) ?_
    refine gl_iadd dL_law_2315 ?_
    refine gl_sld hL dL_law_2316 (nI_add _ _) (by omega) ?_
    refine gl_callV_p (c_M_neglected hR (by omega) ok (xs (6 * t + 1))) dL_law_2317 (mX9_neglected) rfl lL_314 iX9_neglected vX9_neglected (by decide) (by omega) hm rfl rfl rfl rfl (Nat.le_of_ble_eq_true rfl) (fun v8 h2 z2 => ?_)
    obtain ⟨z2, qoff2⟩ := z2
    have hP1 := hP.off qoff2 (by omega)
    have ho1 := (qoff2 114 (by omega)).trans ho
    clear hP ho
    have hP := hP1
    have ho := ho1
    clear hP1 ho1 hm
    rcases z2 with ⟨hd, rfl, hR⟩ | ⟨hd, ⟨z9, rfl⟩, hR⟩
    · (first | exact (hc hd).elim | exact (hd hc).elim)
    · obtain ⟨I8, hm⟩ := hR.hd
      refine gl_istore dL_law_2320 (by decide) ?_
      refine gl_aload_n dL_law_2322 rfl (by rfl) ?_
      refine gl_callV_e (c_M_thrown hR (by omega)) dL_law_2323 (mX9_thrown) rfl lL_124 iX9_thrown vX9_thrown (by decide) (by omega) hm rfl rfl rfl rfl (Nat.le_of_ble_eq_true rfl) ?_
      refine gl_iload dL_law_2326 (by rfl) ?_
      refine gl_icmp_eq (tgt := 2333) dL_law_2328 (by decide) (fun _ => ?_) (fun c9 => absurd rfl c9)
      refine gl_iload dL_law_2333 (by rfl) ?_
      refine gl_if_ne (tgt := 2350) dL_law_2335 (by decide) (fun _ => ?_) (fun c9 => absurd c9 (by decide))
      refine gl_goto (tgt := 2583) dL_law_2350 (by decide) ?_
      exact K.to ⟨hP, ⟨_, hR⟩, ⟨_, ho⟩, hby⟩ ⟨by rfl, by rfl, by rfl, by rfl, by rfl, trivial⟩ (by omega) (by omega)

theorem w_c55 {L t kc ks : Nat} {xs : Nat → Int32} (hL : L ≤ 3072) (ht : 6 * t + 6 ≤ L) (K : w_K L xs t kc ks) {h : s_H} {π : s_Pl} (q : w_St h π) : s_GL (s_Os L xs) TL_law w_Φ 2353 (s_lvs (w_lv t)) [] h 115 (kc + 2) (ks + 12) := by
  obtain ⟨hP, ⟨t0, hR⟩, ⟨f0, ho⟩, hby⟩ := q
  obtain ⟨cnt, cp, ok⟩ := hR.ok
  have hl := hR.l
  have hlen := hR.len
  have hb := hP.1
  unfold s_po at hb
  refine gl_aload_n dL_law_2353 rfl (by rfl) ?_
  refine gl_callV_e (c_X8_backupCount hP (by omega)) dL_law_2354 (mX8_backupCount) rfl lL_315 iX8_backupCount vX8_backupCount (by decide) (by omega) hb rfl rfl rfl rfl (Nat.le_of_ble_eq_true rfl) ?_
  obtain ⟨I9, hm⟩ := hR.hd
  refine gl_aload_n dL_law_2357 rfl (by rfl) ?_
  refine gl_callV_p (c_M_backupCount hR (by omega) ok) dL_law_2358 (mX9_backupCount) rfl lL_318 iX9_backupCount vX9_backupCount (by decide) (by omega) hm rfl rfl rfl rfl (Nat.le_of_ble_eq_true rfl) (fun v9 h2 z2 => ?_)
  have ho1 := ho
  have hP1 := hP
  obtain ⟨rfl, hR, qoff2⟩ := z2
  have ho := (qoff2 114 (by omega)).trans ho1
  have hP := hP1.off qoff2 (by omega)
  clear ho1 hP1
  refine gl_icmp_eq (tgt := 2583) dL_law_2361 (by decide) (fun _ => ?_) (fun c9 => absurd rfl c9)
  exact K.to ⟨hP, ⟨_, hR⟩, ⟨_, ho⟩, hby⟩ ⟨by rfl, by rfl, by rfl, by rfl, by rfl, trivial⟩ (by omega) (by omega)

theorem w_c56 {L t kc ks : Nat} {xs : Nat → Int32} (hL : L ≤ 3072) (ht : 6 * t + 6 ≤ L) (K : w_K L xs t kc ks) {h : s_H} {π : s_Pl} (q : w_St h π) : s_GL (s_Os L xs) TL_law w_Φ 2366 (s_lvs (w_lv t)) [] h 115 (kc + 2) (ks + 12) := by
  obtain ⟨hP, ⟨t0, hR⟩, ⟨f0, ho⟩, hby⟩ := q
  obtain ⟨cnt, cp, ok⟩ := hR.ok
  have hl := hR.l
  have hlen := hR.len
  have hb := hP.1
  unfold s_po at hb
  refine gl_aload_n dL_law_2366 rfl (by rfl) ?_
  refine gl_callV_e (c_X8_backedUpSize hP (by omega)) dL_law_2367 (mX8_backedUpSize) rfl lL_319 iX8_backedUpSize vX8_backedUpSize (by decide) (by omega) hb rfl rfl rfl rfl (Nat.le_of_ble_eq_true rfl) ?_
  obtain ⟨I9, hm⟩ := hR.hd
  refine gl_aload_n dL_law_2370 rfl (by rfl) ?_
  refine gl_callV_p (c_M_backedUpSize hR (by omega) ok) dL_law_2371 (mX9_backedUpSize) rfl lL_322 iX9_backedUpSize vX9_backedUpSize (by decide) (by omega) hm rfl rfl rfl rfl (Nat.le_of_ble_eq_true rfl) (fun v9 h2 z2 => ?_)
  have ho1 := ho
  have hP1 := hP
  obtain ⟨rfl, hR, qoff2⟩ := z2
  have ho := (qoff2 114 (by omega)).trans ho1
  have hP := hP1.off qoff2 (by omega)
  clear ho1 hP1
  refine gl_icmp_eq (tgt := 2583) dL_law_2374 (by decide) (fun _ => ?_) (fun c9 => absurd rfl c9)
  exact K.to ⟨hP, ⟨_, hR⟩, ⟨_, ho⟩, hby⟩ ⟨by rfl, by rfl, by rfl, by rfl, by rfl, trivial⟩ (by omega) (by omega)

theorem w_c57 {L t kc ks : Nat} {xs : Nat → Int32} (hL : L ≤ 3072) (ht : 6 * t + 6 ≤ L) (K : w_K L xs t kc ks) {h : s_H} {π : s_Pl} (q : w_St h π) : s_GL (s_Os L xs) TL_law w_Φ 2379 (s_lvs (w_lv t)) [] h 115 (kc + 2) (ks + 12) := by
  obtain ⟨hP, ⟨t0, hR⟩, ⟨f0, ho⟩, hby⟩ := q
  obtain ⟨cnt, cp, ok⟩ := hR.ok
  have hl := hR.l
  have hlen := hR.len
  have hb := hP.1
  unfold s_po at hb
  refine gl_aload_n dL_law_2379 rfl (by rfl) ?_
  refine gl_callV_e (c_X8_backedUpWeight hP (by omega)) dL_law_2380 (mX8_backedUpWeight) rfl lL_323 iX8_backedUpWeight vX8_backedUpWeight (by decide) (by omega) hb rfl rfl rfl rfl (Nat.le_of_ble_eq_true rfl) ?_
  obtain ⟨I9, hm⟩ := hR.hd
  refine gl_aload_n dL_law_2383 rfl (by rfl) ?_
  refine gl_callV_p (c_M_backedUpWeight hR (by omega) ok) dL_law_2384 (mX9_backedUpWeight) rfl lL_326 iX9_backedUpWeight vX9_backedUpWeight (by decide) (by omega) hm rfl rfl rfl rfl (Nat.le_of_ble_eq_true rfl) (fun v9 h2 z2 => ?_)
  have ho1 := ho
  have hP1 := hP
  obtain ⟨rfl, hR, qoff2⟩ := z2
  have ho := (qoff2 114 (by omega)).trans ho1
  have hP := hP1.off qoff2 (by omega)
  clear ho1 hP1
  refine gl_icmp_eq (tgt := 2583) dL_law_2387 (by decide) (fun _ => ?_) (fun c9 => absurd rfl c9)
  exact K.to ⟨hP, ⟨_, hR⟩, ⟨_, ho⟩, hby⟩ ⟨by rfl, by rfl, by rfl, by rfl, by rfl, trivial⟩ (by omega) (by omega)

theorem w_c58 {L t kc ks : Nat} {xs : Nat → Int32} (hL : L ≤ 3072) (ht : 6 * t + 6 ≤ L) (K : w_K L xs t kc ks) {h : s_H} {π : s_Pl} (q : w_St h π) : s_GL (s_Os L xs) TL_law w_Φ 2392 (s_lvs (w_lv t)) [] h 115 (kc + 2) (ks + 12) := by
  obtain ⟨hP, ⟨t0, hR⟩, ⟨f0, ho⟩, hby⟩ := q
  obtain ⟨cnt, cp, ok⟩ := hR.ok
  have hl := hR.l
  have hlen := hR.len
  have hb := hP.1
  unfold s_po at hb
  refine gl_aload_n dL_law_2392 rfl (by rfl) ?_
  refine gl_callV_p (c_X8_fill hP (by omega) ok) dL_law_2393 (mX8_fill) rfl lL_327 iX8_fill vX8_fill (by decide) (by omega) hb rfl rfl rfl rfl (Nat.le_of_ble_eq_true rfl) (fun v9 h1 z1 => ?_)
  have ho0 := ho
  have hR0 := hR
  obtain ⟨rfl, hP, qoff⟩ := z1
  have ho := (qoff 114 (by omega)).trans ho0
  have hR := hR0.off qoff (by omega)
  clear ho0 hR0
  obtain ⟨I9, hm⟩ := hR.hd
  refine gl_dstore dL_law_2396 (by decide) ?_
  refine gl_aload_n dL_law_2398 rfl (by rfl) ?_
  refine gl_callV_p (c_M_fill hR (by omega) ok) dL_law_2399 (mX9_fill) rfl lL_331 iX9_fill vX9_fill (by decide) (by omega) hm rfl rfl rfl rfl (Nat.le_of_ble_eq_true rfl) (fun v9 h2 z2 => ?_)
  have ho1 := ho
  have hP1 := hP
  obtain ⟨rfl, hR, qoff2⟩ := z2
  have ho := (qoff2 114 (by omega)).trans ho1
  have hP := hP1.off qoff2 (by omega)
  clear ho1 hP1
  refine gl_dstore dL_law_2402 (by decide) ?_
  refine gl_dload dL_law_2404 (by rfl) ?_
  refine gl_dload dL_law_2406 (by rfl) ?_
  refine gl_dcmp dL_law_2408 ?_
  refine gl_if_eq (tgt := 2430) dL_law_2409 (by decide) (fun _ => ?_) (fun c1 => ?_)
  · refine gl_goto (tgt := 2583) dL_law_2430 (by decide) ?_
    exact K.to ⟨hP, ⟨_, hR⟩, ⟨_, ho⟩, hby⟩ ⟨by rfl, by rfl, by rfl, by rfl, by rfl, trivial⟩ (by omega) (by omega)
  · refine gl_dload dL_law_2412 (by rfl) ?_
    refine gl_dload dL_law_2414 (by rfl) ?_
    refine gl_dcmp dL_law_2416 ?_
    refine gl_if_eq (tgt := 2428) dL_law_2417 (by decide) (fun c2 => absurd c2 c1) (fun _ => ?_)
    refine gl_dload dL_law_2420 (by rfl) ?_
    refine gl_dload dL_law_2422 (by rfl) ?_
    refine gl_dcmp dL_law_2424 ?_
    refine gl_if_ne (tgt := 2430) dL_law_2425 (by decide) (fun _ => ?_) (fun c2 => absurd c2 c1)
    refine gl_goto (tgt := 2583) dL_law_2430 (by decide) ?_
    exact K.to ⟨hP, ⟨_, hR⟩, ⟨_, ho⟩, hby⟩ ⟨by rfl, by rfl, by rfl, by rfl, by rfl, trivial⟩ (by omega) (by omega)

theorem w_c59 {L t kc ks : Nat} {xs : Nat → Int32} (hL : L ≤ 3072) (ht : 6 * t + 6 ≤ L) (K : w_K L xs t kc ks) {h : s_H} {π : s_Pl} (q : w_St h π) : s_GL (s_Os L xs) TL_law w_Φ 2433 (s_lvs (w_lv t)) [] h 115 (kc + 2) (ks + 12) := by
  obtain ⟨hP, ⟨t0, hR⟩, ⟨f0, ho⟩, hby⟩ := q
  obtain ⟨cnt, cp, ok⟩ := hR.ok
  have hl := hR.l
  have hlen := hR.len
  have hb := hP.1
  unfold s_po at hb
  refine gl_aload_n dL_law_2433 rfl (by rfl) ?_
  refine gl_callV_p (c_X8_greedyShare hP (by omega) ok) dL_law_2434 (mX8_greedyShare) rfl lL_332 iX8_greedyShare vX8_greedyShare (by decide) (by omega) hb rfl rfl rfl rfl (Nat.le_of_ble_eq_true rfl) (fun v9 h1 z1 => ?_)
  have ho0 := ho
  have hR0 := hR
  obtain ⟨rfl, hP, qoff⟩ := z1
  have ho := (qoff 114 (by omega)).trans ho0
  have hR := hR0.off qoff (by omega)
  clear ho0 hR0
  obtain ⟨I9, hm⟩ := hR.hd
  refine gl_f2d dL_law_2437 (w_gs ok) ?_
  refine gl_dstore dL_law_2438 (by decide) ?_
  refine gl_aload_n dL_law_2440 rfl (by rfl) ?_
  refine gl_callV_p (c_M_greedyShare hR (by omega) ok) dL_law_2441 (mX9_greedyShare) rfl lL_336 iX9_greedyShare vX9_greedyShare (by decide) (by omega) hm rfl rfl rfl rfl (Nat.le_of_ble_eq_true rfl) (fun v9 h2 z2 => ?_)
  have ho1 := ho
  have hP1 := hP
  obtain ⟨rfl, hR, qoff2⟩ := z2
  have ho := (qoff2 114 (by omega)).trans ho1
  have hP := hP1.off qoff2 (by omega)
  clear ho1 hP1
  refine gl_f2d dL_law_2444 (w_gs ok) ?_
  refine gl_dstore dL_law_2445 (by decide) ?_
  refine gl_dload dL_law_2447 (by rfl) ?_
  refine gl_dload dL_law_2449 (by rfl) ?_
  refine gl_dcmp dL_law_2451 ?_
  refine gl_if_eq (tgt := 2473) dL_law_2452 (by decide) (fun _ => ?_) (fun c1 => ?_)
  · refine gl_goto (tgt := 2583) dL_law_2473 (by decide) ?_
    exact K.to ⟨hP, ⟨_, hR⟩, ⟨_, ho⟩, hby⟩ ⟨by rfl, by rfl, by rfl, by rfl, by rfl, trivial⟩ (by omega) (by omega)
  · refine gl_dload dL_law_2455 (by rfl) ?_
    refine gl_dload dL_law_2457 (by rfl) ?_
    refine gl_dcmp dL_law_2459 ?_
    refine gl_if_eq (tgt := 2471) dL_law_2460 (by decide) (fun c2 => absurd c2 c1) (fun _ => ?_)
    refine gl_dload dL_law_2463 (by rfl) ?_
    refine gl_dload dL_law_2465 (by rfl) ?_
    refine gl_dcmp dL_law_2467 ?_
    refine gl_if_ne (tgt := 2473) dL_law_2468 (by decide) (fun _ => ?_) (fun c2 => absurd c2 c1)
    refine gl_goto (tgt := 2583) dL_law_2473 (by decide) ?_
    exact K.to ⟨hP, ⟨_, hR⟩, ⟨_, ho⟩, hby⟩ ⟨by rfl, by rfl, by rfl, by rfl, by rfl, trivial⟩ (by omega) (by omega)

theorem w_c60 {L t kc ks : Nat} {xs : Nat → Int32} (hL : L ≤ 3072) (ht : 6 * t + 6 ≤ L) (K : w_K L xs t kc ks) {h : s_H} {π : s_Pl} (q : w_St h π) : s_GL (s_Os L xs) TL_law w_Φ 2476 (s_lvs (w_lv t)) [] h 115 (kc + 2) (ks + 12) := by
  obtain ⟨hP, ⟨t0, hR⟩, ⟨f0, ho⟩, hby⟩ := q
  obtain ⟨cnt, cp, ok⟩ := hR.ok
  have hl := hR.l
  have hlen := hR.len
  have hb := hP.1
  unfold s_po at hb
  refine gl_aload_n dL_law_2476 rfl (by rfl) ?_
  refine gl_callV_p (c_X8_violations hP (by omega) ok) dL_law_2477 (mX8_violations) rfl lL_337 iX8_violations vX8_violations (by decide) (by omega) hb rfl rfl rfl rfl (Nat.le_of_ble_eq_true rfl) (fun v9 h1 z1 => ?_)
  have ho0 := ho
  have hR0 := hR
  obtain ⟨rfl, hP, qoff⟩ := z1
  have ho := (qoff 114 (by omega)).trans ho0
  have hR := hR0.off qoff (by omega)
  clear ho0 hR0
  obtain ⟨I9, hm⟩ := hR.hd
  refine gl_aload_n dL_law_2480 rfl (by rfl) ?_
  refine gl_callV_p (c_M_violations hR (by omega) ok) dL_law_2481 (mX9_violations) rfl lL_340 iX9_violations vX9_violations (by decide) (by omega) hm rfl rfl rfl rfl (Nat.le_of_ble_eq_true rfl) (fun v9 h2 z2 => ?_)
  have ho1 := ho
  have hP1 := hP
  obtain ⟨rfl, hR, qoff2⟩ := z2
  have ho := (qoff2 114 (by omega)).trans ho1
  have hP := hP1.off qoff2 (by omega)
  clear ho1 hP1
  refine gl_icmp_eq (tgt := 2583) dL_law_2484 (by decide) (fun _ => ?_) (fun c9 => absurd rfl c9)
  exact K.to ⟨hP, ⟨_, hR⟩, ⟨_, ho⟩, hby⟩ ⟨by rfl, by rfl, by rfl, by rfl, by rfl, trivial⟩ (by omega) (by omega)

theorem w_c61 {L t kc ks : Nat} {xs : Nat → Int32} (hL : L ≤ 3072) (ht : 6 * t + 6 ≤ L) (K : w_K L xs t kc ks) {h : s_H} {π : s_Pl} (q : w_St h π) : s_GL (s_Os L xs) TL_law w_Φ 2489 (s_lvs (w_lv t)) [] h 115 (kc + 2) (ks + 12) := by
  obtain ⟨hP, ⟨t0, hR⟩, ⟨f0, ho⟩, hby⟩ := q
  obtain ⟨cnt, cp, ok⟩ := hR.ok
  have hl := hR.l
  have hlen := hR.len
  have hb := hP.1
  unfold s_po at hb
  refine gl_aload_n dL_law_2489 rfl (by rfl) ?_
  refine gl_callV_p (c_X8_writeItems hP (by omega) ok) dL_law_2490 (mX8_writeItems) rfl lL_341 iX8_writeItems vX8_writeItems (by decide) (by omega) hb rfl rfl rfl rfl (Nat.le_of_ble_eq_true rfl) (fun v9 h1 z1 => ?_)
  have ho0 := ho
  have hR0 := hR
  obtain ⟨rfl, hP, qoff⟩ := z1
  have ho := (qoff 114 (by omega)).trans ho0
  have hR := hR0.off qoff (by omega)
  clear ho0 hR0
  obtain ⟨I9, hm⟩ := hR.hd
  refine gl_aload_n dL_law_2493 rfl (by rfl) ?_
  refine gl_callV_p (c_M_writeItems hR (by omega) ok) dL_law_2494 (mX9_writeItems) rfl lL_344 iX9_writeItems vX9_writeItems (by decide) (by omega) hm rfl rfl rfl rfl (Nat.le_of_ble_eq_true rfl) (fun v9 h2 z2 => ?_)
  have ho1 := ho
  have hP1 := hP
  obtain ⟨rfl, hR, qoff2⟩ := z2
  have ho := (qoff2 114 (by omega)).trans ho1
  have hP := hP1.off qoff2 (by omega)
  clear ho1 hP1
  refine gl_icmp_eq (tgt := 2583) dL_law_2497 (by decide) (fun _ => ?_) (fun c9 => absurd rfl c9)
  exact K.to ⟨hP, ⟨_, hR⟩, ⟨_, ho⟩, hby⟩ ⟨by rfl, by rfl, by rfl, by rfl, by rfl, trivial⟩ (by omega) (by omega)

theorem w_c62 {L t kc ks : Nat} {xs : Nat → Int32} (hL : L ≤ 3072) (ht : 6 * t + 6 ≤ L) (K : w_K L xs t kc ks) {h : s_H} {π : s_Pl} (q : w_St h π) : s_GL (s_Os L xs) TL_law w_Φ 2502 (s_lvs (w_lv t)) [] h 115 (kc + 2) (ks + 12) := by
  obtain ⟨hP, ⟨t0, hR⟩, ⟨f0, ho⟩, hby⟩ := q
  obtain ⟨cnt, cp, ok⟩ := hR.ok
  have hl := hR.l
  have hlen := hR.len
  have hb := hP.1
  unfold s_po at hb
  refine gl_aload_n dL_law_2502 rfl (by rfl) ?_
  refine gl_aload_n dL_law_2503 rfl (by rfl) ?_
  refine gl_iload dL_law_2504 (by rfl) ?_
  refine gl_iconst (nI 1) dL_law_2506 (by rfl) ?_
  refine gl_iadd dL_law_2507 ?_
  refine gl_sld hL dL_law_2508 (nI_add _ _) (by omega) ?_
  refine gl_aload_n dL_law_2509 rfl (by rfl) ?_
  refine gl_callSH (c_L_writeRow hP (by omega) ho (by omega) (by omega) ok (xs (6 * t + 1)) (fun r hr c hc => k_cellB ok hc)) dL_law_2510 (mL_writeRow) rfl lL_345 sL_writeRow (by decide) rfl rfl (Nat.le_of_ble_eq_true rfl) (by omega) (by omega) (fun v9 h1 z1 => ?_)
  obtain ⟨z1, qoff⟩ := z1
  obtain ⟨hm9, q1, q2⟩ := qoff.mid (by omega)
  have hR := (hR.off q1 (by omega)).off q2 (by omega)
  obtain ⟨I9, hm⟩ := hR.hd
  clear hP hb ho q1 q2 qoff
  rcases z1 with ⟨hc, rfl, hP, f1, ho, hv⟩ | ⟨hc, rfl, hP, f1, ho⟩
  · refine gl_istore dL_law_2513 (by decide) ?_
    refine gl_aload_n dL_law_2515 rfl (by rfl) ?_
    refine gl_aload_n dL_law_2516 rfl (by rfl) ?_
    refine gl_iload dL_law_2517 (by rfl) ?_
    refine gl_iconst (nI 1) dL_law_2519 (by rfl) ?_
    refine gl_iadd dL_law_2520 ?_
    refine gl_sld hL dL_law_2521 (nI_add _ _) (by omega) ?_
    refine gl_callV_p (c_M_writeRow hR (by omega) ok (xs (6 * t + 1))) dL_law_2522 (mX9_writeRow) rfl lL_347 iX9_writeRow vX9_writeRow (by decide) (by omega) hm rfl rfl rfl rfl (Nat.le_of_ble_eq_true rfl) (fun v8 h2 z2 => ?_)
    obtain ⟨z2, qoff2⟩ := z2
    have hP1 := hP.off qoff2 (by omega)
    have ho1 := (qoff2 114 (by omega)).trans ho
    clear hP ho
    have hP := hP1
    have ho := ho1
    clear hP1 ho1 hm
    rcases z2 with ⟨hd, rfl, hR⟩ | ⟨hd, ⟨z9, rfl⟩, hR⟩
    · obtain ⟨I8, hm⟩ := hR.hd
      refine gl_istore dL_law_2525 (by decide) ?_
      refine gl_aload_n dL_law_2527 rfl (by rfl) ?_
      refine gl_callV_e (c_M_thrown hR (by omega)) dL_law_2528 (mX9_thrown) rfl lL_124 iX9_thrown vX9_thrown (by decide) (by omega) hm rfl rfl rfl rfl (Nat.le_of_ble_eq_true rfl) ?_
      refine gl_iload dL_law_2531 (by rfl) ?_
      refine gl_icmp_eq (tgt := 2538) dL_law_2533 (by decide) (fun _ => ?_) (fun c9 => absurd rfl c9)
      refine gl_iload dL_law_2538 (by rfl) ?_
      refine gl_if_ne (tgt := 2555) dL_law_2540 (by decide) (fun c9 => absurd rfl c9) (fun _ => ?_)
      refine gl_aload_n dL_law_2543 rfl (by rfl) ?_
      refine gl_iconst (nI 0) dL_law_2544 (by rfl) ?_
      refine gl_lald dL_law_2545 (by exact ho) (by omega) (by rfl) (by omega) (by omega) ?_
      rw [hv]
      refine gl_iload dL_law_2546 (by rfl) ?_
      refine gl_i2l dL_law_2548 ?_
      refine gl_lcmp dL_law_2549 ?_
      refine gl_if_eq (tgt := 2555) dL_law_2550 (by decide) (fun _ => ?_) (fun c7 => absurd (w_lc _) c7)
      refine gl_goto (tgt := 2583) dL_law_2555 (by decide) ?_
      exact K.to ⟨hP, ⟨_, hR⟩, ⟨_, ho⟩, hby⟩ ⟨by rfl, by rfl, by rfl, by rfl, by rfl, trivial⟩ (by omega) (by omega)
    · (first | exact (hc hd).elim | exact (hd hc).elim)
  · refine gl_istore dL_law_2513 (by decide) ?_
    refine gl_aload_n dL_law_2515 rfl (by rfl) ?_
    refine gl_aload_n dL_law_2516 rfl (by rfl) ?_
    refine gl_iload dL_law_2517 (by rfl) ?_
    refine gl_iconst (nI 1) dL_law_2519 (by rfl) ?_
    refine gl_iadd dL_law_2520 ?_
    refine gl_sld hL dL_law_2521 (nI_add _ _) (by omega) ?_
    refine gl_callV_p (c_M_writeRow hR (by omega) ok (xs (6 * t + 1))) dL_law_2522 (mX9_writeRow) rfl lL_347 iX9_writeRow vX9_writeRow (by decide) (by omega) hm rfl rfl rfl rfl (Nat.le_of_ble_eq_true rfl) (fun v8 h2 z2 => ?_)
    obtain ⟨z2, qoff2⟩ := z2
    have hP1 := hP.off qoff2 (by omega)
    have ho1 := (qoff2 114 (by omega)).trans ho
    clear hP ho
    have hP := hP1
    have ho := ho1
    clear hP1 ho1 hm
    rcases z2 with ⟨hd, rfl, hR⟩ | ⟨hd, ⟨z9, rfl⟩, hR⟩
    · (first | exact (hc hd).elim | exact (hd hc).elim)
    · obtain ⟨I8, hm⟩ := hR.hd
      refine gl_istore dL_law_2525 (by decide) ?_
      refine gl_aload_n dL_law_2527 rfl (by rfl) ?_
      refine gl_callV_e (c_M_thrown hR (by omega)) dL_law_2528 (mX9_thrown) rfl lL_124 iX9_thrown vX9_thrown (by decide) (by omega) hm rfl rfl rfl rfl (Nat.le_of_ble_eq_true rfl) ?_
      refine gl_iload dL_law_2531 (by rfl) ?_
      refine gl_icmp_eq (tgt := 2538) dL_law_2533 (by decide) (fun _ => ?_) (fun c9 => absurd rfl c9)
      refine gl_iload dL_law_2538 (by rfl) ?_
      refine gl_if_ne (tgt := 2555) dL_law_2540 (by decide) (fun _ => ?_) (fun c9 => absurd c9 (by decide))
      refine gl_goto (tgt := 2583) dL_law_2555 (by decide) ?_
      exact K.to ⟨hP, ⟨_, hR⟩, ⟨_, ho⟩, hby⟩ ⟨by rfl, by rfl, by rfl, by rfl, by rfl, trivial⟩ (by omega) (by omega)

theorem w_c63 {L t kc ks : Nat} {xs : Nat → Int32} (hL : L ≤ 3072) (ht : 6 * t + 6 ≤ L) (K : w_K L xs t kc ks) {h : s_H} {π : s_Pl} (q : w_St h π) : s_GL (s_Os L xs) TL_law w_Φ 2558 (s_lvs (w_lv t)) [] h 115 (kc + 2) (ks + 12) := by
  obtain ⟨hP, ⟨t0, hR⟩, ⟨f0, ho⟩, hby⟩ := q
  obtain ⟨cnt, cp, ok⟩ := hR.ok
  have hl := hR.l
  have hlen := hR.len
  have hb := hP.1
  unfold s_po at hb
  refine gl_aload_n dL_law_2558 rfl (by rfl) ?_
  refine gl_aload_n dL_law_2559 rfl (by rfl) ?_
  refine gl_iload dL_law_2560 (by rfl) ?_
  refine gl_iconst (nI 1) dL_law_2562 (by rfl) ?_
  refine gl_iadd dL_law_2563 ?_
  refine gl_sld hL dL_law_2564 (nI_add _ _) (by omega) ?_
  refine gl_callV_e (c_X8_reportByte hP (by omega) (xs (6 * t + 1))) dL_law_2565 (mX8_reportByte) rfl lL_348 iX8_reportByte vX8_reportByte (by decide) (by omega) hb rfl rfl rfl rfl (Nat.le_of_ble_eq_true rfl) ?_
  obtain ⟨I9, hm⟩ := hR.hd
  refine gl_aload_n dL_law_2568 rfl (by rfl) ?_
  refine gl_aload_n dL_law_2569 rfl (by rfl) ?_
  refine gl_iload dL_law_2570 (by rfl) ?_
  refine gl_iconst (nI 1) dL_law_2572 (by rfl) ?_
  refine gl_iadd dL_law_2573 ?_
  refine gl_sld hL dL_law_2574 (nI_add _ _) (by omega) ?_
  refine gl_callV_p (c_M_reportByte hR (by omega) (xs (6 * t + 1))) dL_law_2575 (mX9_reportByte) rfl lL_351 iX9_reportByte vX9_reportByte (by decide) (by omega) hm rfl rfl rfl rfl (Nat.le_of_ble_eq_true rfl) (fun v9 h2 z2 => ?_)
  have ho1 := ho
  have hP1 := hP
  obtain ⟨rfl, hR, qoff2⟩ := z2
  have ho := (qoff2 114 (by omega)).trans ho1
  have hP := hP1.off qoff2 (by omega)
  clear ho1 hP1
  refine gl_icmp_eq (tgt := 2583) dL_law_2578 (by decide) (fun _ => ?_) (fun c9 => absurd rfl c9)
  exact K.to ⟨hP, ⟨_, hR⟩, ⟨_, ho⟩, hby⟩ ⟨by rfl, by rfl, by rfl, by rfl, by rfl, trivial⟩ (by omega) (by omega)
