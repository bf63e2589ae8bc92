/-! THE LAW'S CASES 10 .. 19 (written by wip/src/law5.py) -/
theorem w_c10 {L t kc ks : Nat} {xs : Nat → Int32} (hL : L ≤ 3072) (ht : 6 * t + 6 ≤ L) (K : w_K L xs t kc ks) {h : s_H} {π : s_Pl} (q : w_St h π) : s_GL (s_Os L xs) TL_law w_Φ 839 (s_lvs (w_lv t)) [] h 115 (kc + 2) (ks + 12) := by
  obtain ⟨hP, ⟨t0, hR⟩, ⟨f0, ho⟩, hby⟩ := q
  obtain ⟨cnt, cp, ok⟩ := hR.ok
  have hl := hR.l
  have hlen := hR.len
  have hb := hP.1
  unfold s_po at hb
  refine gl_aload_n dL_law_839 rfl (by rfl) ?_
  refine gl_aload_n dL_law_840 rfl (by rfl) ?_
  refine gl_iload dL_law_841 (by rfl) ?_
  refine gl_iconst (nI 1) dL_law_843 (by rfl) ?_
  refine gl_iadd dL_law_844 ?_
  refine gl_sld hL dL_law_845 (nI_add _ _) (by omega) ?_
  refine gl_aload_n dL_law_846 rfl (by rfl) ?_
  refine gl_callSH (c_L_release hP (by omega) ho (by omega) (by omega) ok hl (xs (6 * t + 1))) dL_law_847 (mL_release) rfl lL_154 sL_release (by decide) rfl rfl (Nat.le_of_ble_eq_true rfl) (by omega) (by omega) (fun v9 h1 z1 => ?_)
  obtain ⟨z1, qoff⟩ := z1
  obtain ⟨hm9, q1, q2⟩ := qoff.mid (by omega)
  have hR := (hR.off q1 (by omega)).off q2 (by omega)
  obtain ⟨I9, hm⟩ := hR.hd
  clear hP hb ho q1 q2 qoff
  rcases z1 with ⟨hc, rfl, hP, f1, ho, hv⟩ | ⟨hc, rfl, hP, f1, ho⟩
  · refine gl_istore dL_law_850 (by decide) ?_
    refine gl_aload_n dL_law_852 rfl (by rfl) ?_
    refine gl_aload_n dL_law_853 rfl (by rfl) ?_
    refine gl_iload dL_law_854 (by rfl) ?_
    refine gl_iconst (nI 1) dL_law_856 (by rfl) ?_
    refine gl_iadd dL_law_857 ?_
    refine gl_sld hL dL_law_858 (nI_add _ _) (by omega) ?_
    refine gl_callV_p (c_M_release hR (by omega) ok (xs (6 * t + 1))) dL_law_859 (mX9_release) rfl lL_156 iX9_release vX9_release (by decide) (by omega) hm rfl rfl rfl rfl (Nat.le_of_ble_eq_true rfl) (fun v8 h2 z2 => ?_)
    obtain ⟨z2, qoff2⟩ := z2
    have hP1 := hP.off qoff2 (by omega)
    have ho1 := (qoff2 114 (by omega)).trans ho
    clear hP ho
    have hP := hP1
    have ho := ho1
    clear hP1 ho1 hm
    rcases z2 with ⟨hd, rfl, hR⟩ | ⟨hd, ⟨z9, rfl⟩, hR⟩
    · obtain ⟨I8, hm⟩ := hR.hd
      refine gl_istore dL_law_862 (by decide) ?_
      refine gl_aload_n dL_law_864 rfl (by rfl) ?_
      refine gl_callV_e (c_M_thrown hR (by omega)) dL_law_865 (mX9_thrown) rfl lL_124 iX9_thrown vX9_thrown (by decide) (by omega) hm rfl rfl rfl rfl (Nat.le_of_ble_eq_true rfl) ?_
      refine gl_iload dL_law_868 (by rfl) ?_
      refine gl_icmp_eq (tgt := 875) dL_law_870 (by decide) (fun _ => ?_) (fun c9 => absurd rfl c9)
      refine gl_iload dL_law_875 (by rfl) ?_
      refine gl_if_ne (tgt := 892) dL_law_877 (by decide) (fun c9 => absurd rfl c9) (fun _ => ?_)
      refine gl_aload_n dL_law_880 rfl (by rfl) ?_
      refine gl_iconst (nI 0) dL_law_881 (by rfl) ?_
      refine gl_lald dL_law_882 (by exact ho) (by omega) (by rfl) (by omega) (by omega) ?_
      rw [hv]
      refine gl_iload dL_law_883 (by rfl) ?_
      refine gl_i2l dL_law_885 ?_
      refine gl_lcmp dL_law_886 ?_
      refine gl_if_eq (tgt := 892) dL_law_887 (by decide) (fun _ => ?_) (fun c7 => absurd (w_lc _) c7)
      refine gl_goto (tgt := 2583) dL_law_892 (by decide) ?_
      exact K.to ⟨hP, ⟨_, hR⟩, ⟨_, ho⟩, hby⟩ ⟨by rfl, by rfl, by rfl, by rfl, by rfl, trivial⟩ (by omega) (by omega)
    · (first | exact (hc hd).elim | exact (hd hc).elim)
  · refine gl_istore dL_law_850 (by decide) ?_
    refine gl_aload_n dL_law_852 rfl (by rfl) ?_
    refine gl_aload_n dL_law_853 rfl (by rfl) ?_
    refine gl_iload dL_law_854 (by rfl) ?_
    refine gl_iconst (nI 1) dL_law_856 (by rfl) ?_
    refine gl_iadd dL_law_857 ?_
    refine gl_sld hL dL_law_858 (nI_add _ _) (by omega) ?_
    refine gl_callV_p (c_M_release hR (by omega) ok (xs (6 * t + 1))) dL_law_859 (mX9_release) rfl lL_156 iX9_release vX9_release (by decide) (by omega) hm rfl rfl rfl rfl (Nat.le_of_ble_eq_true rfl) (fun v8 h2 z2 => ?_)
    obtain ⟨z2, qoff2⟩ := z2
    have hP1 := hP.off qoff2 (by omega)
    have ho1 := (qoff2 114 (by omega)).trans ho
    clear hP ho
    have hP := hP1
    have ho := ho1
    clear hP1 ho1 hm
    rcases z2 with ⟨hd, rfl, hR⟩ | ⟨hd, ⟨z9, rfl⟩, hR⟩
    · (first | exact (hc hd).elim | exact (hd hc).elim)
    · obtain ⟨I8, hm⟩ := hR.hd
      refine gl_istore dL_law_862 (by decide) ?_
      refine gl_aload_n dL_law_864 rfl (by rfl) ?_
      refine gl_callV_e (c_M_thrown hR (by omega)) dL_law_865 (mX9_thrown) rfl lL_124 iX9_thrown vX9_thrown (by decide) (by omega) hm rfl rfl rfl rfl (Nat.le_of_ble_eq_true rfl) ?_
      refine gl_iload dL_law_868 (by rfl) ?_
      refine gl_icmp_eq (tgt := 875) dL_law_870 (by decide) (fun _ => ?_) (fun c9 => absurd rfl c9)
      refine gl_iload dL_law_875 (by rfl) ?_
      refine gl_if_ne (tgt := 892) dL_law_877 (by decide) (fun _ => ?_) (fun c9 => absurd c9 (by decide))
      refine gl_goto (tgt := 2583) dL_law_892 (by decide) ?_
      exact K.to ⟨hP, ⟨_, hR⟩, ⟨_, ho⟩, hby⟩ ⟨by rfl, by rfl, by rfl, by rfl, by rfl, trivial⟩ (by omega) (by omega)

theorem w_c11 {L t kc ks : Nat} {xs : Nat → Int32} (hL : L ≤ 3072) (ht : 6 * t + 6 ≤ L) (K : w_K L xs t kc ks) {h : s_H} {π : s_Pl} (q : w_St h π) : s_GL (s_Os L xs) TL_law w_Φ 895 (s_lvs (w_lv t)) [] h 115 (kc + 2) (ks + 12) := by
  obtain ⟨hP, ⟨t0, hR⟩, ⟨f0, ho⟩, hby⟩ := q
  obtain ⟨cnt, cp, ok⟩ := hR.ok
  have hl := hR.l
  have hlen := hR.len
  have hb := hP.1
  unfold s_po at hb
  refine gl_aload_n dL_law_895 rfl (by rfl) ?_
  refine gl_aload_n dL_law_896 rfl (by rfl) ?_
  refine gl_iload dL_law_897 (by rfl) ?_
  refine gl_iconst (nI 1) dL_law_899 (by rfl) ?_
  refine gl_iadd dL_law_900 ?_
  refine gl_sld hL dL_law_901 (nI_add _ _) (by omega) ?_
  refine gl_aload_n dL_law_902 rfl (by rfl) ?_
  refine gl_callSH (c_L_setCapacity hP (by omega) ho (by omega) (by omega) ok hl (xs (6 * t + 1))) dL_law_903 (mL_setCapacity) rfl lL_157 sL_setCapacity (by decide) rfl rfl (Nat.le_of_ble_eq_true rfl) (by omega) (by omega) (fun v9 h1 z1 => ?_)
  obtain ⟨z1, qoff⟩ := z1
  obtain ⟨hm9, q1, q2⟩ := qoff.mid (by omega)
  have hR := (hR.off q1 (by omega)).off q2 (by omega)
  obtain ⟨I9, hm⟩ := hR.hd
  clear hP hb ho q1 q2 qoff
  rcases z1 with ⟨hc, rfl, hP, f1, ho, hv⟩ | ⟨hc, rfl, hP, f1, ho⟩
  · refine gl_istore dL_law_906 (by decide) ?_
    refine gl_aload_n dL_law_908 rfl (by rfl) ?_
    refine gl_aload_n dL_law_909 rfl (by rfl) ?_
    refine gl_iload dL_law_910 (by rfl) ?_
    refine gl_iconst (nI 1) dL_law_912 (by rfl) ?_
    refine gl_iadd dL_law_913 ?_
    refine gl_sld hL dL_law_914 (nI_add _ _) (by omega) ?_
    refine gl_callV_p (c_M_setCapacity hR (by omega) ok (xs (6 * t + 1))) dL_law_915 (mX9_setCapacity) rfl lL_159 iX9_setCapacity vX9_setCapacity (by decide) (by omega) hm rfl rfl rfl rfl (Nat.le_of_ble_eq_true rfl) (fun v8 h2 z2 => ?_)
    obtain ⟨z2, qoff2⟩ := z2
    have hP1 := hP.off qoff2 (by omega)
    have ho1 := (qoff2 114 (by omega)).trans ho
    clear hP ho
    have hP := hP1
    have ho := ho1
    clear hP1 ho1 hm
    rcases z2 with ⟨hd, rfl, hR⟩ | ⟨hd, ⟨z9, rfl⟩, hR⟩
    · obtain ⟨I8, hm⟩ := hR.hd
      refine gl_istore dL_law_918 (by decide) ?_
      refine gl_aload_n dL_law_920 rfl (by rfl) ?_
      refine gl_callV_e (c_M_thrown hR (by omega)) dL_law_921 (mX9_thrown) rfl lL_124 iX9_thrown vX9_thrown (by decide) (by omega) hm rfl rfl rfl rfl (Nat.le_of_ble_eq_true rfl) ?_
      refine gl_iload dL_law_924 (by rfl) ?_
      refine gl_icmp_eq (tgt := 931) dL_law_926 (by decide) (fun _ => ?_) (fun c9 => absurd rfl c9)
      refine gl_iload dL_law_931 (by rfl) ?_
      refine gl_if_ne (tgt := 948) dL_law_933 (by decide) (fun c9 => absurd rfl c9) (fun _ => ?_)
      refine gl_aload_n dL_law_936 rfl (by rfl) ?_
      refine gl_iconst (nI 0) dL_law_937 (by rfl) ?_
      refine gl_lald dL_law_938 (by exact ho) (by omega) (by rfl) (by omega) (by omega) ?_
      rw [hv]
      refine gl_iload dL_law_939 (by rfl) ?_
      refine gl_i2l dL_law_941 ?_
      refine gl_lcmp dL_law_942 ?_
      refine gl_if_eq (tgt := 948) dL_law_943 (by decide) (fun _ => ?_) (fun c7 => absurd (w_lc _) c7)
      refine gl_goto (tgt := 2583) dL_law_948 (by decide) ?_
      exact K.to ⟨hP, ⟨_, hR⟩, ⟨_, ho⟩, hby⟩ ⟨by rfl, by rfl, by rfl, by rfl, by rfl, trivial⟩ (by omega) (by omega)
    · (first | exact (hc hd).elim | exact (hd hc).elim)
  · refine gl_istore dL_law_906 (by decide) ?_
    refine gl_aload_n dL_law_908 rfl (by rfl) ?_
    refine gl_aload_n dL_law_909 rfl (by rfl) ?_
    refine gl_iload dL_law_910 (by rfl) ?_
    refine gl_iconst (nI 1) dL_law_912 (by rfl) ?_
    refine gl_iadd dL_law_913 ?_
    refine gl_sld hL dL_law_914 (nI_add _ _) (by omega) ?_
    refine gl_callV_p (c_M_setCapacity hR (by omega) ok (xs (6 * t + 1))) dL_law_915 (mX9_setCapacity) rfl lL_159 iX9_setCapacity vX9_setCapacity (by decide) (by omega) hm rfl rfl rfl rfl (Nat.le_of_ble_eq_true rfl) (fun v8 h2 z2 => ?_)
    obtain ⟨z2, qoff2⟩ := z2
    have hP1 := hP.off qoff2 (by omega)
    have ho1 := (qoff2 114 (by omega)).trans ho
    clear hP ho
    have hP := hP1
    have ho := ho1
    clear hP1 ho1 hm
    rcases z2 with ⟨hd, rfl, hR⟩ | ⟨hd, ⟨z9, rfl⟩, hR⟩
    · (first | exact (hc hd).elim | exact (hd hc).elim)
    · obtain ⟨I8, hm⟩ := hR.hd
      refine gl_istore dL_law_918 (by decide) ?_
      refine gl_aload_n dL_law_920 rfl (by rfl) ?_
      refine gl_callV_e (c_M_thrown hR (by omega)) dL_law_921 (mX9_thrown) rfl lL_124 iX9_thrown vX9_thrown (by decide) (by omega) hm rfl rfl rfl rfl (Nat.le_of_ble_eq_true rfl) ?_
      refine gl_iload dL_law_924 (by rfl) ?_
      refine gl_icmp_eq (tgt := 931) dL_law_926 (by decide) (fun _ => ?_) (fun c9 => absurd rfl c9)
      refine gl_iload dL_law_931 (by rfl) ?_
      refine gl_if_ne (tgt := 948) dL_law_933 (by decide) (fun _ => ?_) (fun c9 => absurd c9 (by decide))
      refine gl_goto (tgt := 2583) dL_law_948 (by decide) ?_
      exact K.to ⟨hP, ⟨_, hR⟩, ⟨_, ho⟩, hby⟩ ⟨by rfl, by rfl, by rfl, by rfl, by rfl, trivial⟩ (by omega) (by omega)

theorem w_c12 {L t kc ks : Nat} {xs : Nat → Int32} (hL : L ≤ 3072) (ht : 6 * t + 6 ≤ L) (K : w_K L xs t kc ks) {h : s_H} {π : s_Pl} (q : w_St h π) : s_GL (s_Os L xs) TL_law w_Φ 951 (s_lvs (w_lv t)) [] h 115 (kc + 2) (ks + 12) := by
  obtain ⟨hP, ⟨t0, hR⟩, ⟨f0, ho⟩, hby⟩ := q
  obtain ⟨cnt, cp, ok⟩ := hR.ok
  have hl := hR.l
  have hlen := hR.len
  have hb := hP.1
  unfold s_po at hb
  refine gl_aload_n dL_law_951 rfl (by rfl) ?_
  refine gl_aload_n dL_law_952 rfl (by rfl) ?_
  refine gl_callSH (c_L_pinBest hP (by omega) ho (by omega) (by omega) ok hl) dL_law_953 (mL_pinBest) rfl lL_160 sL_pinBest (by decide) rfl rfl (Nat.le_of_ble_eq_true rfl) (by omega) (by omega) (fun v9 h1 z1 => ?_)
  obtain ⟨z1, qoff⟩ := z1
  obtain ⟨hm9, q1, q2⟩ := qoff.mid (by omega)
  have hR := (hR.off q1 (by omega)).off q2 (by omega)
  obtain ⟨I9, hm⟩ := hR.hd
  clear hP hb ho q1 q2 qoff
  rcases z1 with ⟨hc, rfl, hP, f1, ho, hv⟩ | ⟨hc, rfl, hP, f1, ho⟩
  · refine gl_istore dL_law_956 (by decide) ?_
    refine gl_aload_n dL_law_958 rfl (by rfl) ?_
    refine gl_callV_p (c_M_pinBest hR (by omega) ok) dL_law_959 (mX9_pinBest) rfl lL_163 iX9_pinBest vX9_pinBest (by decide) (by omega) hm rfl rfl rfl rfl (Nat.le_of_ble_eq_true rfl) (fun v8 h2 z2 => ?_)
    obtain ⟨z2, qoff2⟩ := z2
    have hP1 := hP.off qoff2 (by omega)
    have ho1 := (qoff2 114 (by omega)).trans ho
    clear hP ho
    have hP := hP1
    have ho := ho1
    clear hP1 ho1 hm
    rcases z2 with ⟨hd, rfl, hR⟩ | ⟨hd, ⟨z9, rfl⟩, hR⟩
    · obtain ⟨I8, hm⟩ := hR.hd
      refine gl_istore dL_law_962 (by decide) ?_
      refine gl_aload_n dL_law_964 rfl (by rfl) ?_
      refine gl_callV_e (c_M_thrown hR (by omega)) dL_law_965 (mX9_thrown) rfl lL_124 iX9_thrown vX9_thrown (by decide) (by omega) hm rfl rfl rfl rfl (Nat.le_of_ble_eq_true rfl) ?_
      refine gl_iload dL_law_968 (by rfl) ?_
      refine gl_icmp_eq (tgt := 975) dL_law_970 (by decide) (fun _ => ?_) (fun c9 => absurd rfl c9)
      refine gl_iload dL_law_975 (by rfl) ?_
      refine gl_if_ne (tgt := 992) dL_law_977 (by decide) (fun c9 => absurd rfl c9) (fun _ => ?_)
      refine gl_aload_n dL_law_980 rfl (by rfl) ?_
      refine gl_iconst (nI 0) dL_law_981 (by rfl) ?_
      refine gl_lald dL_law_982 (by exact ho) (by omega) (by rfl) (by omega) (by omega) ?_
      rw [hv]
      refine gl_iload dL_law_983 (by rfl) ?_
      refine gl_i2l dL_law_985 ?_
      refine gl_lcmp dL_law_986 ?_
      refine gl_if_eq (tgt := 992) dL_law_987 (by decide) (fun _ => ?_) (fun c7 => absurd (w_lc _) c7)
      refine gl_goto (tgt := 2583) dL_law_992 (by decide) ?_
      exact K.to ⟨hP, ⟨_, hR⟩, ⟨_, ho⟩, hby⟩ ⟨by rfl, by rfl, by rfl, by rfl, by rfl, trivial⟩ (by omega) (by omega)
    · (first | exact (hc hd).elim | exact (hd hc).elim)
  · refine gl_istore dL_law_956 (by decide) ?_
    refine gl_aload_n dL_law_958 rfl (by rfl) ?_
    refine gl_callV_p (c_M_pinBest hR (by omega) ok) dL_law_959 (mX9_pinBest) rfl lL_163 iX9_pinBest vX9_pinBest (by decide) (by omega) hm rfl rfl rfl rfl (Nat.le_of_ble_eq_true rfl) (fun v8 h2 z2 => ?_)
    obtain ⟨z2, qoff2⟩ := z2
    have hP1 := hP.off qoff2 (by omega)
    have ho1 := (qoff2 114 (by omega)).trans ho
    clear hP ho
    have hP := hP1
    have ho := ho1
    clear hP1 ho1 hm
    rcases z2 with ⟨hd, rfl, hR⟩ | ⟨hd, ⟨z9, rfl⟩, hR⟩
    · (first | exact (hc hd).elim | exact (hd hc).elim)
    · obtain ⟨I8, hm⟩ := hR.hd
      refine gl_istore dL_law_962 (by decide) ?_
      refine gl_aload_n dL_law_964 rfl (by rfl) ?_
      refine gl_callV_e (c_M_thrown hR (by omega)) dL_law_965 (mX9_thrown) rfl lL_124 iX9_thrown vX9_thrown (by decide) (by omega) hm rfl rfl rfl rfl (Nat.le_of_ble_eq_true rfl) ?_
      refine gl_iload dL_law_968 (by rfl) ?_
      refine gl_icmp_eq (tgt := 975) dL_law_970 (by decide) (fun _ => ?_) (fun c9 => absurd rfl c9)
      refine gl_iload dL_law_975 (by rfl) ?_
      refine gl_if_ne (tgt := 992) dL_law_977 (by decide) (fun _ => ?_) (fun c9 => absurd c9 (by decide))
      refine gl_goto (tgt := 2583) dL_law_992 (by decide) ?_
      exact K.to ⟨hP, ⟨_, hR⟩, ⟨_, ho⟩, hby⟩ ⟨by rfl, by rfl, by rfl, by rfl, by rfl, trivial⟩ (by omega) (by omega)

theorem w_c13 {L t kc ks : Nat} {xs : Nat → Int32} (hL : L ≤ 3072) (ht : 6 * t + 6 ≤ L) (K : w_K L xs t kc ks) {h : s_H} {π : s_Pl} (q : w_St h π) : s_GL (s_Os L xs) TL_law w_Φ 995 (s_lvs (w_lv t)) [] h 115 (kc + 2) (ks + 12) := by
  obtain ⟨hP, ⟨t0, hR⟩, ⟨f0, ho⟩, hby⟩ := q
  obtain ⟨cnt, cp, ok⟩ := hR.ok
  have hl := hR.l
  have hlen := hR.len
  have hb := hP.1
  unfold s_po at hb
  refine gl_aload_n dL_law_995 rfl (by rfl) ?_
  refine gl_callV_p (c_X8_runBackup hP (by omega) ok hl) dL_law_996 (mX8_runBackup) rfl lL_164 iX8_runBackup vX8_runBackup (by decide) (by omega) hb rfl rfl rfl rfl (Nat.le_of_ble_eq_true rfl) (fun v9 h1 z1 => ?_)
  have ho0 := ho
  have hR0 := hR
  obtain ⟨rfl, hP, qoff⟩ := z1
  have ho := (qoff 114 (by omega)).trans ho0
  have hR := hR0.off qoff (by omega)
  clear ho0 hR0
  obtain ⟨I9, hm⟩ := hR.hd
  refine gl_aload_n dL_law_999 rfl (by rfl) ?_
  refine gl_callV_p (c_M_runBackup hR (by omega) ok) dL_law_1000 (mX9_runBackup) rfl lL_167 iX9_runBackup vX9_runBackup (by decide) (by omega) hm rfl rfl rfl rfl (Nat.le_of_ble_eq_true rfl) (fun v9 h2 z2 => ?_)
  have ho1 := ho
  have hP1 := hP
  obtain ⟨rfl, hR, qoff2⟩ := z2
  have ho := (qoff2 114 (by omega)).trans ho1
  have hP := hP1.off qoff2 (by omega)
  clear ho1 hP1
  refine gl_icmp_eq (tgt := 2583) dL_law_1003 (by decide) (fun _ => ?_) (fun c9 => absurd rfl c9)
  exact K.to ⟨hP, ⟨_, hR⟩, ⟨_, ho⟩, hby⟩ ⟨by rfl, by rfl, by rfl, by rfl, by rfl, trivial⟩ (by omega) (by omega)

theorem w_c14 {L t kc ks : Nat} {xs : Nat → Int32} (hL : L ≤ 3072) (ht : 6 * t + 6 ≤ L) (K : w_K L xs t kc ks) {h : s_H} {π : s_Pl} (q : w_St h π) : s_GL (s_Os L xs) TL_law w_Φ 1008 (s_lvs (w_lv t)) [] h 115 (kc + 2) (ks + 12) := by
  obtain ⟨hP, ⟨t0, hR⟩, ⟨f0, ho⟩, hby⟩ := q
  obtain ⟨cnt, cp, ok⟩ := hR.ok
  have hl := hR.l
  have hlen := hR.len
  have hb := hP.1
  unfold s_po at hb
  refine gl_aload_n dL_law_1008 rfl (by rfl) ?_
  refine gl_aload_n dL_law_1009 rfl (by rfl) ?_
  refine gl_iload dL_law_1010 (by rfl) ?_
  refine gl_iconst (nI 1) dL_law_1012 (by rfl) ?_
  refine gl_iadd dL_law_1013 ?_
  refine gl_sld hL dL_law_1014 (nI_add _ _) (by omega) ?_
  refine gl_aload_n dL_law_1015 rfl (by rfl) ?_
  refine gl_callSH (c_L_runBackups hP (by omega) ho (by omega) (by omega) ok hl (xs (6 * t + 1))) dL_law_1016 (mL_runBackups) rfl lL_168 sL_runBackups (by decide) rfl rfl (Nat.le_of_ble_eq_true rfl) (by omega) (by omega) (fun v9 h1 z1 => ?_)
  obtain ⟨z1, qoff⟩ := z1
  obtain ⟨hm9, q1, q2⟩ := qoff.mid (by omega)
  have hR := (hR.off q1 (by omega)).off q2 (by omega)
  obtain ⟨I9, hm⟩ := hR.hd
  clear hP hb ho q1 q2 qoff
  rcases z1 with ⟨hc, rfl, hP, f1, ho, hv⟩ | ⟨hc, rfl, hP, f1, ho⟩
  · refine gl_istore dL_law_1019 (by decide) ?_
    refine gl_aload_n dL_law_1021 rfl (by rfl) ?_
    refine gl_aload_n dL_law_1022 rfl (by rfl) ?_
    refine gl_iload dL_law_1023 (by rfl) ?_
    refine gl_iconst (nI 1) dL_law_1025 (by rfl) ?_
    refine gl_iadd dL_law_1026 ?_
    refine gl_sld hL dL_law_1027 (nI_add _ _) (by omega) ?_
    refine gl_callV_p (c_M_runBackups hR (by omega) ok (xs (6 * t + 1))) dL_law_1028 (mX9_runBackups) rfl lL_170 iX9_runBackups vX9_runBackups (by decide) (by omega) hm rfl rfl rfl rfl (Nat.le_of_ble_eq_true rfl) (fun v8 h2 z2 => ?_)
    obtain ⟨z2, qoff2⟩ := z2
    have hP1 := hP.off qoff2 (by omega)
    have ho1 := (qoff2 114 (by omega)).trans ho
    clear hP ho
    have hP := hP1
    have ho := ho1
    clear hP1 ho1 hm
    rcases z2 with ⟨hd, rfl, hR⟩ | ⟨hd, ⟨z9, rfl⟩, hR⟩
    · obtain ⟨I8, hm⟩ := hR.hd
      refine gl_istore dL_law_1031 (by decide) ?_
      refine gl_aload_n dL_law_1033 rfl (by rfl) ?_
      refine gl_callV_e (c_M_thrown hR (by omega)) dL_law_1034 (mX9_thrown) rfl lL_124 iX9_thrown vX9_thrown (by decide) (by omega) hm rfl rfl rfl rfl (Nat.le_of_ble_eq_true rfl) ?_
      refine gl_iload dL_law_1037 (by rfl) ?_
      refine gl_icmp_eq (tgt := 1044) dL_law_1039 (by decide) (fun _ => ?_) (fun c9 => absurd rfl c9)
      refine gl_iload dL_law_1044 (by rfl) ?_
      refine gl_if_ne (tgt := 1061) dL_law_1046 (by decide) (fun c9 => absurd rfl c9) (fun _ => ?_)
      refine gl_aload_n dL_law_1049 rfl (by rfl) ?_
      refine gl_iconst (nI 0) dL_law_1050 (by rfl) ?_
      refine gl_lald dL_law_1051 (by exact ho) (by omega) (by rfl) (by omega) (by omega) ?_
      rw [hv]
      refine gl_iload dL_law_1052 (by rfl) ?_
      refine gl_i2l dL_law_1054 ?_
      refine gl_lcmp dL_law_1055 ?_
      refine gl_if_eq (tgt := 1061) dL_law_1056 (by decide) (fun _ => ?_) (fun c7 => absurd (w_lc _) c7)
      refine gl_goto (tgt := 2583) dL_law_1061 (by decide) ?_
      exact K.to ⟨hP, ⟨_, hR⟩, ⟨_, ho⟩, hby⟩ ⟨by rfl, by rfl, by rfl, by rfl, by rfl, trivial⟩ (by omega) (by omega)
    · (first | exact (hc hd).elim | exact (hd hc).elim)
  · refine gl_istore dL_law_1019 (by decide) ?_
    refine gl_aload_n dL_law_1021 rfl (by rfl) ?_
    refine gl_aload_n dL_law_1022 rfl (by rfl) ?_
    refine gl_iload dL_law_1023 (by rfl) ?_
    refine gl_iconst (nI 1) dL_law_1025 (by rfl) ?_
    refine gl_iadd dL_law_1026 ?_
    refine gl_sld hL dL_law_1027 (nI_add _ _) (by omega) ?_
    refine gl_callV_p (c_M_runBackups hR (by omega) ok (xs (6 * t + 1))) dL_law_1028 (mX9_runBackups) rfl lL_170 iX9_runBackups vX9_runBackups (by decide) (by omega) hm rfl rfl rfl rfl (Nat.le_of_ble_eq_true rfl) (fun v8 h2 z2 => ?_)
    obtain ⟨z2, qoff2⟩ := z2
    have hP1 := hP.off qoff2 (by omega)
    have ho1 := (qoff2 114 (by omega)).trans ho
    clear hP ho
    have hP := hP1
    have ho := ho1
    clear hP1 ho1 hm
    rcases z2 with ⟨hd, rfl, hR⟩ | ⟨hd, ⟨z9, rfl⟩, hR⟩
    · (first | exact (hc hd).elim | exact (hd hc).elim)
    · obtain ⟨I8, hm⟩ := hR.hd
      refine gl_istore dL_law_1031 (by decide) ?_
      refine gl_aload_n dL_law_1033 rfl (by rfl) ?_
      refine gl_callV_e (c_M_thrown hR (by omega)) dL_law_1034 (mX9_thrown) rfl lL_124 iX9_thrown vX9_thrown (by decide) (by omega) hm rfl rfl rfl rfl (Nat.le_of_ble_eq_true rfl) ?_
      refine gl_iload dL_law_1037 (by rfl) ?_
      refine gl_icmp_eq (tgt := 1044) dL_law_1039 (by decide) (fun _ => ?_) (fun c9 => absurd rfl c9)
      refine gl_iload dL_law_1044 (by rfl) ?_
      refine gl_if_ne (tgt := 1061) dL_law_1046 (by decide) (fun _ => ?_) (fun c9 => absurd c9 (by decide))
      refine gl_goto (tgt := 2583) dL_law_1061 (by decide) ?_
      exact K.to ⟨hP, ⟨_, hR⟩, ⟨_, ho⟩, hby⟩ ⟨by rfl, by rfl, by rfl, by rfl, by rfl, trivial⟩ (by omega) (by omega)

theorem w_c15 {L t kc ks : Nat} {xs : Nat → Int32} (hL : L ≤ 3072) (ht : 6 * t + 6 ≤ L) (K : w_K L xs t kc ks) {h : s_H} {π : s_Pl} (q : w_St h π) : s_GL (s_Os L xs) TL_law w_Φ 1064 (s_lvs (w_lv t)) [] h 115 (kc + 2) (ks + 12) := by
  obtain ⟨hP, ⟨t0, hR⟩, ⟨f0, ho⟩, hby⟩ := q
  obtain ⟨cnt, cp, ok⟩ := hR.ok
  have hl := hR.l
  have hlen := hR.len
  have hb := hP.1
  unfold s_po at hb
  by_cases hl0 : π.2.2.2.2.1 = 0
  · refine gl_aload_n dL_law_1064 rfl (by rfl) ?_
    refine gl_callV_p (c_X8_undo0 hP (by omega) hl0) dL_law_1065 (mX8_undo) rfl lL_171 iX8_undo vX8_undo (by decide) (by omega) hb rfl rfl rfl rfl (Nat.le_of_ble_eq_true rfl) (fun v9 h1 z1 => ?_)
    have ho0 := ho
    have hR0 := hR
    obtain ⟨rfl, hP, qoff⟩ := z1
    have ho := (qoff 114 (by omega)).trans ho0
    have hR := hR0.off qoff (by omega)
    clear ho0 hR0
    obtain ⟨I9, hm⟩ := hR.hd
    refine gl_aload_n dL_law_1068 rfl (by rfl) ?_
    refine gl_callV_p (c_M_undo0 hR (by omega) hl0) dL_law_1069 (mX9_undo) rfl lL_174 iX9_undo vX9_undo (by decide) (by omega) hm rfl rfl rfl rfl (Nat.le_of_ble_eq_true rfl) (fun v9 h2 z2 => ?_)
    have ho1 := ho
    have hP1 := hP
    obtain ⟨rfl, hR, qoff2⟩ := z2
    have ho := (qoff2 114 (by omega)).trans ho1
    have hP := hP1.off qoff2 (by omega)
    clear ho1 hP1
    refine gl_icmp_eq (tgt := 2583) dL_law_1072 (by decide) (fun _ => ?_) (fun c9 => absurd rfl c9)
    exact K.to ⟨hP, ⟨_, hR⟩, ⟨_, ho⟩, hby⟩ ⟨by rfl, by rfl, by rfl, by rfl, by rfl, trivial⟩ (by omega) (by omega)
  · obtain ⟨σ, σs, sv, D, l, πr⟩ := π
    obtain ⟨l, rfl⟩ : ∃ k, l = k + 1 := ⟨l - 1, by have z : ¬ l = 0 := hl0; omega⟩
    have hl : l < 10 := hl
    refine gl_aload_n dL_law_1064 rfl (by rfl) ?_
    refine gl_callV_p (c_X8_undo hP (by omega) hl) dL_law_1065 (mX8_undo) rfl lL_171 iX8_undo vX8_undo (by decide) (by omega) hb rfl rfl rfl rfl (Nat.le_of_ble_eq_true rfl) (fun v9 h1 z1 => ?_)
    have ho0 := ho
    have hR0 := hR
    obtain ⟨rfl, hP, qoff⟩ := z1
    have ho := (qoff 114 (by omega)).trans ho0
    have hR := hR0.off qoff (by omega)
    clear ho0 hR0
    obtain ⟨I9, hm⟩ := hR.hd
    refine gl_aload_n dL_law_1068 rfl (by rfl) ?_
    refine gl_callV_p (c_M_undo hR (by omega)) dL_law_1069 (mX9_undo) rfl lL_174 iX9_undo vX9_undo (by decide) (by omega) hm rfl rfl rfl rfl (Nat.le_of_ble_eq_true rfl) (fun v9 h2 z2 => ?_)
    have ho1 := ho
    have hP1 := hP
    obtain ⟨rfl, hR, qoff2⟩ := z2
    have ho := (qoff2 114 (by omega)).trans ho1
    have hP := hP1.off qoff2 (by omega)
    clear ho1 hP1
    refine gl_icmp_eq (tgt := 2583) dL_law_1072 (by decide) (fun _ => ?_) (fun c9 => absurd rfl c9)
    exact K.to ⟨hP, ⟨_, hR⟩, ⟨_, ho⟩, hby⟩ ⟨by rfl, by rfl, by rfl, by rfl, by rfl, trivial⟩ (by omega) (by omega)

theorem w_c16 {L t kc ks : Nat} {xs : Nat → Int32} (hL : L ≤ 3072) (ht : 6 * t + 6 ≤ L) (K : w_K L xs t kc ks) {h : s_H} {π : s_Pl} (q : w_St h π) : s_GL (s_Os L xs) TL_law w_Φ 1077 (s_lvs (w_lv t)) [] h 115 (kc + 2) (ks + 12) := by
  obtain ⟨hP, ⟨t0, hR⟩, ⟨f0, ho⟩, hby⟩ := q
  obtain ⟨cnt, cp, ok⟩ := hR.ok
  have hl := hR.l
  have hlen := hR.len
  have hb := hP.1
  unfold s_po at hb
  refine gl_aload_n dL_law_1077 rfl (by rfl) ?_
  refine gl_callV_e (c_X8_undoCount hP (by omega)) dL_law_1078 (mX8_undoCount) rfl lL_175 iX8_undoCount vX8_undoCount (by decide) (by omega) hb rfl rfl rfl rfl (Nat.le_of_ble_eq_true rfl) ?_
  obtain ⟨I9, hm⟩ := hR.hd
  refine gl_aload_n dL_law_1081 rfl (by rfl) ?_
  refine gl_callV_p (c_M_undoCount hR (by omega)) dL_law_1082 (mX9_undoCount) rfl lL_178 iX9_undoCount vX9_undoCount (by decide) (by omega) hm rfl rfl rfl rfl (Nat.le_of_ble_eq_true rfl) (fun v9 h2 z2 => ?_)
  have ho1 := ho
  have hP1 := hP
  obtain ⟨rfl, hR, qoff2⟩ := z2
  have ho := (qoff2 114 (by omega)).trans ho1
  have hP := hP1.off qoff2 (by omega)
  clear ho1 hP1
  refine gl_icmp_eq (tgt := 2583) dL_law_1085 (by decide) (fun _ => ?_) (fun c9 => absurd rfl c9)
  exact K.to ⟨hP, ⟨_, hR⟩, ⟨_, ho⟩, hby⟩ ⟨by rfl, by rfl, by rfl, by rfl, by rfl, trivial⟩ (by omega) (by omega)

theorem w_c17 {L t kc ks : Nat} {xs : Nat → Int32} (hL : L ≤ 3072) (ht : 6 * t + 6 ≤ L) (K : w_K L xs t kc ks) {h : s_H} {π : s_Pl} (q : w_St h π) : s_GL (s_Os L xs) TL_law w_Φ 1090 (s_lvs (w_lv t)) [] h 115 (kc + 2) (ks + 12) := by
  obtain ⟨hP, ⟨t0, hR⟩, ⟨f0, ho⟩, hby⟩ := q
  obtain ⟨cnt, cp, ok⟩ := hR.ok
  have hl := hR.l
  have hlen := hR.len
  have hb := hP.1
  unfold s_po at hb
  refine gl_aload_n dL_law_1090 rfl (by rfl) ?_
  refine gl_callV_p (c_X8_saveSnapshot hP (by omega)) dL_law_1091 (mX8_saveSnapshot) rfl lL_179 iX8_saveSnapshot vX8_saveSnapshot (by decide) (by omega) hb rfl rfl rfl rfl (Nat.le_of_ble_eq_true rfl) (fun v9 h1 z1 => ?_)
  have ho0 := ho
  have hR0 := hR
  obtain ⟨rfl, hP, qoff⟩ := z1
  have ho := (qoff 114 (by omega)).trans ho0
  have hR := hR0.off qoff (by omega)
  clear ho0 hR0
  obtain ⟨I9, hm⟩ := hR.hd
  refine gl_aload_n dL_law_1094 rfl (by rfl) ?_
  refine gl_callV_p (c_M_saveSnapshot hR (by omega) ok) dL_law_1095 (mX9_saveSnapshot) rfl lL_182 iX9_saveSnapshot vX9_saveSnapshot (by decide) (by omega) hm rfl rfl rfl rfl (Nat.le_of_ble_eq_true rfl) (fun v9 h2 z2 => ?_)
  have ho1 := ho
  have hP1 := hP
  obtain ⟨rfl, hR, qoff2⟩ := z2
  have ho := (qoff2 114 (by omega)).trans ho1
  have hP := hP1.off qoff2 (by omega)
  clear ho1 hP1
  refine gl_icmp_eq (tgt := 2583) dL_law_1098 (by decide) (fun _ => ?_) (fun c9 => absurd rfl c9)
  exact K.to ⟨hP, ⟨_, hR⟩, ⟨_, ho⟩, hby⟩ ⟨by rfl, by rfl, by rfl, by rfl, by rfl, trivial⟩ (by omega) (by omega)

theorem w_c18 {L t kc ks : Nat} {xs : Nat → Int32} (hL : L ≤ 3072) (ht : 6 * t + 6 ≤ L) (K : w_K L xs t kc ks) {h : s_H} {π : s_Pl} (q : w_St h π) : s_GL (s_Os L xs) TL_law w_Φ 1103 (s_lvs (w_lv t)) [] h 115 (kc + 2) (ks + 12) := by
  obtain ⟨hP, ⟨t0, hR⟩, ⟨f0, ho⟩, hby⟩ := q
  obtain ⟨cnt, cp, ok⟩ := hR.ok
  have hl := hR.l
  have hlen := hR.len
  have hb := hP.1
  unfold s_po at hb
  refine gl_aload_n dL_law_1103 rfl (by rfl) ?_
  refine gl_aload_n dL_law_1104 rfl (by rfl) ?_
  refine gl_callSH (c_L_restoreSnapshot hP (by omega) ho (by omega) (by omega)) dL_law_1105 (mL_restoreSnapshot) rfl lL_183 sL_restoreSnapshot (by decide) rfl rfl (Nat.le_of_ble_eq_true rfl) (by omega) (by omega) (fun v9 h1 z1 => ?_)
  obtain ⟨z1, qoff⟩ := z1
  obtain ⟨hm9, q1, q2⟩ := qoff.mid (by omega)
  have hR := (hR.off q1 (by omega)).off q2 (by omega)
  obtain ⟨I9, hm⟩ := hR.hd
  clear hP hb ho q1 q2 qoff
  rcases z1 with ⟨hc, rfl, hP, f1, ho, hv⟩ | ⟨hc, rfl, hP, f1, ho⟩
  · refine gl_istore dL_law_1108 (by decide) ?_
    refine gl_aload_n dL_law_1110 rfl (by rfl) ?_
    refine gl_callV_p (c_M_restoreSnapshot hR (by omega)) dL_law_1111 (mX9_restoreSnapshot) rfl lL_185 iX9_restoreSnapshot vX9_restoreSnapshot (by decide) (by omega) hm rfl rfl rfl rfl (Nat.le_of_ble_eq_true rfl) (fun v8 h2 z2 => ?_)
    obtain ⟨z2, qoff2⟩ := z2
    have hP1 := hP.off qoff2 (by omega)
    have ho1 := (qoff2 114 (by omega)).trans ho
    clear hP ho
    have hP := hP1
    have ho := ho1
    clear hP1 ho1 hm
    rcases z2 with ⟨hd, rfl, hR⟩ | ⟨hd, ⟨z9, rfl⟩, hR⟩
    · obtain ⟨I8, hm⟩ := hR.hd
      refine gl_istore dL_law_1114 (by decide) ?_
      refine gl_aload_n dL_law_1116 rfl (by rfl) ?_
      refine gl_callV_e (c_M_thrown hR (by omega)) dL_law_1117 (mX9_thrown) rfl lL_124 iX9_thrown vX9_thrown (by decide) (by omega) hm rfl rfl rfl rfl (Nat.le_of_ble_eq_true rfl) ?_
      refine gl_iload dL_law_1120 (by rfl) ?_
      refine gl_icmp_eq (tgt := 1127) dL_law_1122 (by decide) (fun _ => ?_) (fun c9 => absurd rfl c9)
      refine gl_iload dL_law_1127 (by rfl) ?_
      refine gl_if_ne (tgt := 1144) dL_law_1129 (by decide) (fun c9 => absurd rfl c9) (fun _ => ?_)
      refine gl_aload_n dL_law_1132 rfl (by rfl) ?_
      refine gl_iconst (nI 0) dL_law_1133 (by rfl) ?_
      refine gl_lald dL_law_1134 (by exact ho) (by omega) (by rfl) (by omega) (by omega) ?_
      rw [hv]
      refine gl_iload dL_law_1135 (by rfl) ?_
      refine gl_i2l dL_law_1137 ?_
      refine gl_lcmp dL_law_1138 ?_
      refine gl_if_eq (tgt := 1144) dL_law_1139 (by decide) (fun _ => ?_) (fun c7 => absurd (w_lc _) c7)
      refine gl_goto (tgt := 2583) dL_law_1144 (by decide) ?_
      exact K.to ⟨hP, ⟨_, hR⟩, ⟨_, ho⟩, hby⟩ ⟨by rfl, by rfl, by rfl, by rfl, by rfl, trivial⟩ (by omega) (by omega)
    · (first | exact (hc hd).elim | exact (hd hc).elim)
  · refine gl_istore dL_law_1108 (by decide) ?_
    refine gl_aload_n dL_law_1110 rfl (by rfl) ?_
    refine gl_callV_p (c_M_restoreSnapshot hR (by omega)) dL_law_1111 (mX9_restoreSnapshot) rfl lL_185 iX9_restoreSnapshot vX9_restoreSnapshot (by decide) (by omega) hm rfl rfl rfl rfl (Nat.le_of_ble_eq_true rfl) (fun v8 h2 z2 => ?_)
    obtain ⟨z2, qoff2⟩ := z2
    have hP1 := hP.off qoff2 (by omega)
    have ho1 := (qoff2 114 (by omega)).trans ho
    clear hP ho
    have hP := hP1
    have ho := ho1
    clear hP1 ho1 hm
    rcases z2 with ⟨hd, rfl, hR⟩ | ⟨hd, ⟨z9, rfl⟩, hR⟩
    · (first | exact (hc hd).elim | exact (hd hc).elim)
    · obtain ⟨I8, hm⟩ := hR.hd
      refine gl_istore dL_law_1114 (by decide) ?_
      refine gl_aload_n dL_law_1116 rfl (by rfl) ?_
      refine gl_callV_e (c_M_thrown hR (by omega)) dL_law_1117 (mX9_thrown) rfl lL_124 iX9_thrown vX9_thrown (by decide) (by omega) hm rfl rfl rfl rfl (Nat.le_of_ble_eq_true rfl) ?_
      refine gl_iload dL_law_1120 (by rfl) ?_
      refine gl_icmp_eq (tgt := 1127) dL_law_1122 (by decide) (fun _ => ?_) (fun c9 => absurd rfl c9)
      refine gl_iload dL_law_1127 (by rfl) ?_
      refine gl_if_ne (tgt := 1144) dL_law_1129 (by decide) (fun _ => ?_) (fun c9 => absurd c9 (by decide))
      refine gl_goto (tgt := 2583) dL_law_1144 (by decide) ?_
      exact K.to ⟨hP, ⟨_, hR⟩, ⟨_, ho⟩, hby⟩ ⟨by rfl, by rfl, by rfl, by rfl, by rfl, trivial⟩ (by omega) (by omega)

theorem w_c19 {L t kc ks : Nat} {xs : Nat → Int32} (hL : L ≤ 3072) (ht : 6 * t + 6 ≤ L) (K : w_K L xs t kc ks) {h : s_H} {π : s_Pl} (q : w_St h π) : s_GL (s_Os L xs) TL_law w_Φ 1147 (s_lvs (w_lv t)) [] h 115 (kc + 2) (ks + 12) := by
  obtain ⟨hP, ⟨t0, hR⟩, ⟨f0, ho⟩, hby⟩ := q
  obtain ⟨cnt, cp, ok⟩ := hR.ok
  have hl := hR.l
  have hlen := hR.len
  have hb := hP.1
  unfold s_po at hb
  refine gl_aload_n dL_law_1147 rfl (by rfl) ?_
  refine gl_callV_e (c_X8_scriptErrorKind hP (by omega)) dL_law_1148 (mX8_scriptErrorKind) rfl lL_186 iX8_scriptErrorKind vX8_scriptErrorKind (by decide) (by omega) hb rfl rfl rfl rfl (Nat.le_of_ble_eq_true rfl) ?_
  obtain ⟨I9, hm⟩ := hR.hd
  refine gl_aload_n dL_law_1151 rfl (by rfl) ?_
  refine gl_callV_p (c_M_scriptErrorKind hR (by omega)) dL_law_1152 (mX9_scriptErrorKind) rfl lL_189 iX9_scriptErrorKind vX9_scriptErrorKind (by decide) (by omega) hm rfl rfl rfl rfl (Nat.le_of_ble_eq_true rfl) (fun v9 h2 z2 => ?_)
  have ho1 := ho
  have hP1 := hP
  obtain ⟨rfl, hR, qoff2⟩ := z2
  have ho := (qoff2 114 (by omega)).trans ho1
  have hP := hP1.off qoff2 (by omega)
  clear ho1 hP1
  refine gl_icmp_eq (tgt := 2583) dL_law_1155 (by decide) (fun _ => ?_) (fun c9 => absurd rfl c9)
  exact K.to ⟨hP, ⟨_, hR⟩, ⟨_, ho⟩, hby⟩ ⟨by rfl, by rfl, by rfl, by rfl, by rfl, trivial⟩ (by omega) (by omega)
