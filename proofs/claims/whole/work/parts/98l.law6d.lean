/-! THE LAW'S CASES 30 .. 39 (written by wip/src/law5.py) -/
theorem w_c30 {L t kc ks : Nat} {xs : Nat → Int32} (hL : L ≤ 3072) (ht : 6 * t + 6 ≤ L) (K : w_K L xs t kc ks) {h : s_H} {π : s_Pl} (q : w_St h π) : s_GL (s_Os L xs) TL_law w_Φ 1505 (s_lvs (w_lv t)) [] h 115 (kc + 2) (ks + 12) := by
  obtain ⟨hP, ⟨t0, hR⟩, ⟨f0, ho⟩, hby⟩ := q
  obtain ⟨cnt, cp, ok⟩ := hR.ok
  have hl := hR.l
  have hlen := hR.len
  have hb := hP.1
  unfold s_po at hb
  refine gl_aload_n dL_law_1505 rfl (by rfl) ?_
  refine gl_callV_p (c_X8_densestItem hP (by omega) ok) dL_law_1506 (mX8_densestItem) rfl lL_225 iX8_densestItem vX8_densestItem (by decide) (by omega) hb rfl rfl rfl rfl (Nat.le_of_ble_eq_true rfl) (fun v9 h1 z1 => ?_)
  have ho0 := ho
  have hR0 := hR
  obtain ⟨rfl, hP, qoff⟩ := z1
  have ho := (qoff 114 (by omega)).trans ho0
  have hR := hR0.off qoff (by omega)
  clear ho0 hR0
  obtain ⟨I9, hm⟩ := hR.hd
  refine gl_aload_n dL_law_1509 rfl (by rfl) ?_
  refine gl_callV_p (c_M_densestItem hR (by omega) ok) dL_law_1510 (mX9_densestItem) rfl lL_228 iX9_densestItem vX9_densestItem (by decide) (by omega) hm rfl rfl rfl rfl (Nat.le_of_ble_eq_true rfl) (fun v9 h2 z2 => ?_)
  have ho1 := ho
  have hP1 := hP
  obtain ⟨rfl, hR, qoff2⟩ := z2
  have ho := (qoff2 114 (by omega)).trans ho1
  have hP := hP1.off qoff2 (by omega)
  clear ho1 hP1
  refine gl_icmp_eq (tgt := 2583) dL_law_1513 (by decide) (fun _ => ?_) (fun c9 => absurd rfl c9)
  exact K.to ⟨hP, ⟨_, hR⟩, ⟨_, ho⟩, hby⟩ ⟨by rfl, by rfl, by rfl, by rfl, by rfl, trivial⟩ (by omega) (by omega)

theorem w_c31 {L t kc ks : Nat} {xs : Nat → Int32} (hL : L ≤ 3072) (ht : 6 * t + 6 ≤ L) (K : w_K L xs t kc ks) {h : s_H} {π : s_Pl} (q : w_St h π) : s_GL (s_Os L xs) TL_law w_Φ 1518 (s_lvs (w_lv t)) [] h 115 (kc + 2) (ks + 12) := by
  obtain ⟨hP, ⟨t0, hR⟩, ⟨f0, ho⟩, hby⟩ := q
  obtain ⟨cnt, cp, ok⟩ := hR.ok
  have hl := hR.l
  have hlen := hR.len
  have hb := hP.1
  unfold s_po at hb
  refine gl_aload_n dL_law_1518 rfl (by rfl) ?_
  refine gl_callV_e (c_X8_hasPlan hP (by omega) ok) dL_law_1519 (mX8_hasPlan) rfl lL_229 iX8_hasPlan vX8_hasPlan (by decide) (by omega) hb rfl rfl rfl rfl (Nat.le_of_ble_eq_true rfl) ?_
  obtain ⟨I9, hm⟩ := hR.hd
  refine gl_aload_n dL_law_1522 rfl (by rfl) ?_
  refine gl_callV_p (c_M_hasPlan hR (by omega) ok) dL_law_1523 (mX9_hasPlan) rfl lL_233 iX9_hasPlan vX9_hasPlan (by decide) (by omega) hm rfl rfl rfl rfl (Nat.le_of_ble_eq_true rfl) (fun v9 h2 z2 => ?_)
  have ho1 := ho
  have hP1 := hP
  obtain ⟨rfl, hR, qoff2⟩ := z2
  have ho := (qoff2 114 (by omega)).trans ho1
  have hP := hP1.off qoff2 (by omega)
  clear ho1 hP1
  refine gl_icmp_eq (tgt := 2583) dL_law_1526 (by decide) (fun _ => ?_) (fun c9 => absurd rfl c9)
  exact K.to ⟨hP, ⟨_, hR⟩, ⟨_, ho⟩, hby⟩ ⟨by rfl, by rfl, by rfl, by rfl, by rfl, trivial⟩ (by omega) (by omega)

theorem w_c32 {L t kc ks : Nat} {xs : Nat → Int32} (hL : L ≤ 3072) (ht : 6 * t + 6 ≤ L) (K : w_K L xs t kc ks) {h : s_H} {π : s_Pl} (q : w_St h π) : s_GL (s_Os L xs) TL_law w_Φ 1531 (s_lvs (w_lv t)) [] h 115 (kc + 2) (ks + 12) := by
  obtain ⟨hP, ⟨t0, hR⟩, ⟨f0, ho⟩, hby⟩ := q
  obtain ⟨cnt, cp, ok⟩ := hR.ok
  have hl := hR.l
  have hlen := hR.len
  have hb := hP.1
  unfold s_po at hb
  refine gl_aload_n dL_law_1531 rfl (by rfl) ?_
  refine gl_callV_p (c_X8_bestWeight hP (by omega) ok) dL_law_1532 (mX8_bestWeight) rfl lL_234 iX8_bestWeight vX8_bestWeight (by decide) (by omega) hb rfl rfl rfl rfl (Nat.le_of_ble_eq_true rfl) (fun v9 h1 z1 => ?_)
  have ho0 := ho
  have hR0 := hR
  obtain ⟨rfl, hP, qoff⟩ := z1
  have ho := (qoff 114 (by omega)).trans ho0
  have hR := hR0.off qoff (by omega)
  clear ho0 hR0
  obtain ⟨I9, hm⟩ := hR.hd
  refine gl_aload_n dL_law_1535 rfl (by rfl) ?_
  refine gl_callV_p (c_M_bestWeight hR (by omega) ok) dL_law_1536 (mX9_bestWeight) rfl lL_237 iX9_bestWeight vX9_bestWeight (by decide) (by omega) hm rfl rfl rfl rfl (Nat.le_of_ble_eq_true rfl) (fun v9 h2 z2 => ?_)
  have ho1 := ho
  have hP1 := hP
  obtain ⟨rfl, hR, qoff2⟩ := z2
  have ho := (qoff2 114 (by omega)).trans ho1
  have hP := hP1.off qoff2 (by omega)
  clear ho1 hP1
  refine gl_icmp_eq (tgt := 2583) dL_law_1539 (by decide) (fun _ => ?_) (fun c9 => absurd rfl c9)
  exact K.to ⟨hP, ⟨_, hR⟩, ⟨_, ho⟩, hby⟩ ⟨by rfl, by rfl, by rfl, by rfl, by rfl, trivial⟩ (by omega) (by omega)

theorem w_c33 {L t kc ks : Nat} {xs : Nat → Int32} (hL : L ≤ 3072) (ht : 6 * t + 6 ≤ L) (K : w_K L xs t kc ks) {h : s_H} {π : s_Pl} (q : w_St h π) : s_GL (s_Os L xs) TL_law w_Φ 1544 (s_lvs (w_lv t)) [] h 115 (kc + 2) (ks + 12) := by
  obtain ⟨hP, ⟨t0, hR⟩, ⟨f0, ho⟩, hby⟩ := q
  obtain ⟨cnt, cp, ok⟩ := hR.ok
  have hl := hR.l
  have hlen := hR.len
  have hb := hP.1
  unfold s_po at hb
  refine gl_aload_n dL_law_1544 rfl (by rfl) ?_
  refine gl_callV_p (c_X8_bestPlan hP (by omega) ok) dL_law_1545 (mX8_bestPlan) rfl lL_238 iX8_bestPlan vX8_bestPlan (by decide) (by omega) hb rfl rfl rfl rfl (Nat.le_of_ble_eq_true rfl) (fun v9 h1 z1 => ?_)
  have ho0 := ho
  have hR0 := hR
  obtain ⟨rfl, hP, qoff⟩ := z1
  have ho := (qoff 114 (by omega)).trans ho0
  have hR := hR0.off qoff (by omega)
  clear ho0 hR0
  obtain ⟨I9, hm⟩ := hR.hd
  refine gl_aload_n dL_law_1548 rfl (by rfl) ?_
  refine gl_callV_p (c_M_bestPlan hR (by omega) ok) dL_law_1549 (mX9_bestPlan) rfl lL_241 iX9_bestPlan vX9_bestPlan (by decide) (by omega) hm rfl rfl rfl rfl (Nat.le_of_ble_eq_true rfl) (fun v9 h2 z2 => ?_)
  have ho1 := ho
  have hP1 := hP
  obtain ⟨rfl, hR, qoff2⟩ := z2
  have ho := (qoff2 114 (by omega)).trans ho1
  have hP := hP1.off qoff2 (by omega)
  clear ho1 hP1
  refine gl_icmp_eq (tgt := 2583) dL_law_1552 (by decide) (fun _ => ?_) (fun c9 => absurd rfl c9)
  exact K.to ⟨hP, ⟨_, hR⟩, ⟨_, ho⟩, hby⟩ ⟨by rfl, by rfl, by rfl, by rfl, by rfl, trivial⟩ (by omega) (by omega)

theorem w_c34 {L t kc ks : Nat} {xs : Nat → Int32} (hL : L ≤ 3072) (ht : 6 * t + 6 ≤ L) (K : w_K L xs t kc ks) {h : s_H} {π : s_Pl} (q : w_St h π) : s_GL (s_Os L xs) TL_law w_Φ 1557 (s_lvs (w_lv t)) [] h 115 (kc + 2) (ks + 12) := by
  obtain ⟨hP, ⟨t0, hR⟩, ⟨f0, ho⟩, hby⟩ := q
  obtain ⟨cnt, cp, ok⟩ := hR.ok
  have hl := hR.l
  have hlen := hR.len
  have hb := hP.1
  unfold s_po at hb
  refine gl_aload_n dL_law_1557 rfl (by rfl) ?_
  refine gl_callV_p (c_X8_bestSize hP (by omega) ok) dL_law_1558 (mX8_bestSize) rfl lL_242 iX8_bestSize vX8_bestSize (by decide) (by omega) hb rfl rfl rfl rfl (Nat.le_of_ble_eq_true rfl) (fun v9 h1 z1 => ?_)
  have ho0 := ho
  have hR0 := hR
  obtain ⟨rfl, hP, qoff⟩ := z1
  have ho := (qoff 114 (by omega)).trans ho0
  have hR := hR0.off qoff (by omega)
  clear ho0 hR0
  obtain ⟨I9, hm⟩ := hR.hd
  refine gl_aload_n dL_law_1561 rfl (by rfl) ?_
  refine gl_callV_p (c_M_bestSize hR (by omega) ok) dL_law_1562 (mX9_bestSize) rfl lL_245 iX9_bestSize vX9_bestSize (by decide) (by omega) hm rfl rfl rfl rfl (Nat.le_of_ble_eq_true rfl) (fun v9 h2 z2 => ?_)
  have ho1 := ho
  have hP1 := hP
  obtain ⟨rfl, hR, qoff2⟩ := z2
  have ho := (qoff2 114 (by omega)).trans ho1
  have hP := hP1.off qoff2 (by omega)
  clear ho1 hP1
  refine gl_icmp_eq (tgt := 2583) dL_law_1565 (by decide) (fun _ => ?_) (fun c9 => absurd rfl c9)
  exact K.to ⟨hP, ⟨_, hR⟩, ⟨_, ho⟩, hby⟩ ⟨by rfl, by rfl, by rfl, by rfl, by rfl, trivial⟩ (by omega) (by omega)

theorem w_c35 {L t kc ks : Nat} {xs : Nat → Int32} (hL : L ≤ 3072) (ht : 6 * t + 6 ≤ L) (K : w_K L xs t kc ks) {h : s_H} {π : s_Pl} (q : w_St h π) : s_GL (s_Os L xs) TL_law w_Φ 1570 (s_lvs (w_lv t)) [] h 115 (kc + 2) (ks + 12) := by
  obtain ⟨hP, ⟨t0, hR⟩, ⟨f0, ho⟩, hby⟩ := q
  obtain ⟨cnt, cp, ok⟩ := hR.ok
  have hl := hR.l
  have hlen := hR.len
  have hb := hP.1
  unfold s_po at hb
  refine gl_aload_n dL_law_1570 rfl (by rfl) ?_
  refine gl_callV_p (c_X8_slack hP (by omega) ok) dL_law_1571 (mX8_slack) rfl lL_246 iX8_slack vX8_slack (by decide) (by omega) hb rfl rfl rfl rfl (Nat.le_of_ble_eq_true rfl) (fun v9 h1 z1 => ?_)
  have ho0 := ho
  have hR0 := hR
  obtain ⟨rfl, hP, qoff⟩ := z1
  have ho := (qoff 114 (by omega)).trans ho0
  have hR := hR0.off qoff (by omega)
  clear ho0 hR0
  obtain ⟨I9, hm⟩ := hR.hd
  refine gl_aload_n dL_law_1574 rfl (by rfl) ?_
  refine gl_callV_p (c_M_slack hR (by omega) ok) dL_law_1575 (mX9_slack) rfl lL_249 iX9_slack vX9_slack (by decide) (by omega) hm rfl rfl rfl rfl (Nat.le_of_ble_eq_true rfl) (fun v9 h2 z2 => ?_)
  have ho1 := ho
  have hP1 := hP
  obtain ⟨rfl, hR, qoff2⟩ := z2
  have ho := (qoff2 114 (by omega)).trans ho1
  have hP := hP1.off qoff2 (by omega)
  clear ho1 hP1
  refine gl_icmp_eq (tgt := 2583) dL_law_1578 (by decide) (fun _ => ?_) (fun c9 => absurd rfl c9)
  exact K.to ⟨hP, ⟨_, hR⟩, ⟨_, ho⟩, hby⟩ ⟨by rfl, by rfl, by rfl, by rfl, by rfl, trivial⟩ (by omega) (by omega)

theorem w_c36 {L t kc ks : Nat} {xs : Nat → Int32} (hL : L ≤ 3072) (ht : 6 * t + 6 ≤ L) (K : w_K L xs t kc ks) {h : s_H} {π : s_Pl} (q : w_St h π) : s_GL (s_Os L xs) TL_law w_Φ 1583 (s_lvs (w_lv t)) [] h 115 (kc + 2) (ks + 12) := by
  obtain ⟨hP, ⟨t0, hR⟩, ⟨f0, ho⟩, hby⟩ := q
  obtain ⟨cnt, cp, ok⟩ := hR.ok
  have hl := hR.l
  have hlen := hR.len
  have hb := hP.1
  unfold s_po at hb
  refine gl_aload_n dL_law_1583 rfl (by rfl) ?_
  refine gl_aload_n dL_law_1584 rfl (by rfl) ?_
  refine gl_iload dL_law_1585 (by rfl) ?_
  refine gl_iconst (nI 1) dL_law_1587 (by rfl) ?_
  refine gl_iadd dL_law_1588 ?_
  refine gl_sld hL dL_law_1589 (nI_add _ _) (by omega) ?_
  refine gl_aload_n dL_law_1590 rfl (by rfl) ?_
  refine gl_callSH (c_L_isTaken hP (by omega) ho (by omega) (by omega) ok (xs (6 * t + 1))) dL_law_1591 (mL_isTaken) rfl lL_250 sL_isTaken (by decide) rfl rfl (Nat.le_of_ble_eq_true rfl) (by omega) (by omega) (fun v9 h1 z1 => ?_)
  obtain ⟨z1, qoff⟩ := z1
  obtain ⟨hm9, q1, q2⟩ := qoff.mid (by omega)
  have hR := (hR.off q1 (by omega)).off q2 (by omega)
  obtain ⟨I9, hm⟩ := hR.hd
  clear hP hb ho q1 q2 qoff
  rcases z1 with ⟨hc, rfl, hP, f1, ho, hv⟩ | ⟨hc, rfl, hP, f1, ho⟩
  · refine gl_istore dL_law_1594 (by decide) ?_
    refine gl_aload_n dL_law_1596 rfl (by rfl) ?_
    refine gl_aload_n dL_law_1597 rfl (by rfl) ?_
    refine gl_iload dL_law_1598 (by rfl) ?_
    refine gl_iconst (nI 1) dL_law_1600 (by rfl) ?_
    refine gl_iadd dL_law_1601 ?_
    refine gl_sld hL dL_law_1602 (nI_add _ _) (by omega) ?_
    refine gl_callV_p (c_M_isTaken hR (by omega) ok (xs (6 * t + 1))) dL_law_1603 (mX9_isTaken) rfl lL_252 iX9_isTaken vX9_isTaken (by decide) (by omega) hm rfl rfl rfl rfl (Nat.le_of_ble_eq_true rfl) (fun v8 h2 z2 => ?_)
    obtain ⟨z2, qoff2⟩ := z2
    have hP1 := hP.off qoff2 (by omega)
    have ho1 := (qoff2 114 (by omega)).trans ho
    clear hP ho
    have hP := hP1
    have ho := ho1
    clear hP1 ho1 hm
    rcases z2 with ⟨hd, rfl, hR⟩ | ⟨hd, ⟨z9, rfl⟩, hR⟩
    · obtain ⟨I8, hm⟩ := hR.hd
      refine gl_istore dL_law_1606 (by decide) ?_
      refine gl_aload_n dL_law_1608 rfl (by rfl) ?_
      refine gl_callV_e (c_M_thrown hR (by omega)) dL_law_1609 (mX9_thrown) rfl lL_124 iX9_thrown vX9_thrown (by decide) (by omega) hm rfl rfl rfl rfl (Nat.le_of_ble_eq_true rfl) ?_
      refine gl_iload dL_law_1612 (by rfl) ?_
      refine gl_icmp_eq (tgt := 1619) dL_law_1614 (by decide) (fun _ => ?_) (fun c9 => absurd rfl c9)
      refine gl_iload dL_law_1619 (by rfl) ?_
      refine gl_if_ne (tgt := 1643) dL_law_1621 (by decide) (fun c9 => absurd rfl c9) (fun _ => ?_)
      refine gl_aload_n dL_law_1624 rfl (by rfl) ?_
      refine gl_iconst (nI 0) dL_law_1625 (by rfl) ?_
      refine gl_lald dL_law_1626 (by exact ho) (by omega) (by rfl) (by omega) (by omega) ?_
      rw [hv]
      refine gl_iload dL_law_1627 (by rfl) ?_
      refine gl_if_eq (tgt := 1636) dL_law_1629 (by decide) (fun c8 => ?_) (fun c8 => ?_)
      · rw [c8]
        refine gl_lconst 0 dL_law_1636 (by rfl) ?_
        refine gl_lcmp dL_law_1637 ?_
        refine gl_if_eq (tgt := 1643) dL_law_1638 (by decide) (fun _ => ?_) (fun c7 => absurd (by decide) c7)
        refine gl_goto (tgt := 2583) dL_law_1643 (by decide) ?_
        exact K.to ⟨hP, ⟨_, hR⟩, ⟨_, ho⟩, hby⟩ ⟨by rfl, by rfl, by rfl, by rfl, by rfl, trivial⟩ (by omega) (by omega)
      · rw [w_01 _ c8 (by split <;> simp)]
        refine gl_lconst 1 dL_law_1632 (by rfl) ?_
        refine gl_goto (tgt := 1637) dL_law_1633 (by decide) ?_
        refine gl_lcmp dL_law_1637 ?_
        refine gl_if_eq (tgt := 1643) dL_law_1638 (by decide) (fun _ => ?_) (fun c7 => absurd (by decide) c7)
        refine gl_goto (tgt := 2583) dL_law_1643 (by decide) ?_
        exact K.to ⟨hP, ⟨_, hR⟩, ⟨_, ho⟩, hby⟩ ⟨by rfl, by rfl, by rfl, by rfl, by rfl, trivial⟩ (by omega) (by omega)
    · (first | exact (hc hd).elim | exact (hd hc).elim)
  · refine gl_istore dL_law_1594 (by decide) ?_
    refine gl_aload_n dL_law_1596 rfl (by rfl) ?_
    refine gl_aload_n dL_law_1597 rfl (by rfl) ?_
    refine gl_iload dL_law_1598 (by rfl) ?_
    refine gl_iconst (nI 1) dL_law_1600 (by rfl) ?_
    refine gl_iadd dL_law_1601 ?_
    refine gl_sld hL dL_law_1602 (nI_add _ _) (by omega) ?_
    refine gl_callV_p (c_M_isTaken hR (by omega) ok (xs (6 * t + 1))) dL_law_1603 (mX9_isTaken) rfl lL_252 iX9_isTaken vX9_isTaken (by decide) (by omega) hm rfl rfl rfl rfl (Nat.le_of_ble_eq_true rfl) (fun v8 h2 z2 => ?_)
    obtain ⟨z2, qoff2⟩ := z2
    have hP1 := hP.off qoff2 (by omega)
    have ho1 := (qoff2 114 (by omega)).trans ho
    clear hP ho
    have hP := hP1
    have ho := ho1
    clear hP1 ho1 hm
    rcases z2 with ⟨hd, rfl, hR⟩ | ⟨hd, ⟨z9, rfl⟩, hR⟩
    · (first | exact (hc hd).elim | exact (hd hc).elim)
    · obtain ⟨I8, hm⟩ := hR.hd
      refine gl_istore dL_law_1606 (by decide) ?_
      refine gl_aload_n dL_law_1608 rfl (by rfl) ?_
      refine gl_callV_e (c_M_thrown hR (by omega)) dL_law_1609 (mX9_thrown) rfl lL_124 iX9_thrown vX9_thrown (by decide) (by omega) hm rfl rfl rfl rfl (Nat.le_of_ble_eq_true rfl) ?_
      refine gl_iload dL_law_1612 (by rfl) ?_
      refine gl_icmp_eq (tgt := 1619) dL_law_1614 (by decide) (fun _ => ?_) (fun c9 => absurd rfl c9)
      refine gl_iload dL_law_1619 (by rfl) ?_
      refine gl_if_ne (tgt := 1643) dL_law_1621 (by decide) (fun _ => ?_) (fun c9 => absurd c9 (by decide))
      refine gl_goto (tgt := 2583) dL_law_1643 (by decide) ?_
      exact K.to ⟨hP, ⟨_, hR⟩, ⟨_, ho⟩, hby⟩ ⟨by rfl, by rfl, by rfl, by rfl, by rfl, trivial⟩ (by omega) (by omega)

theorem w_c37 {L t kc ks : Nat} {xs : Nat → Int32} (hL : L ≤ 3072) (ht : 6 * t + 6 ≤ L) (K : w_K L xs t kc ks) {h : s_H} {π : s_Pl} (q : w_St h π) : s_GL (s_Os L xs) TL_law w_Φ 1646 (s_lvs (w_lv t)) [] h 115 (kc + 2) (ks + 12) := by
  obtain ⟨hP, ⟨t0, hR⟩, ⟨f0, ho⟩, hby⟩ := q
  obtain ⟨cnt, cp, ok⟩ := hR.ok
  have hl := hR.l
  have hlen := hR.len
  have hb := hP.1
  unfold s_po at hb
  refine gl_aload_n dL_law_1646 rfl (by rfl) ?_
  refine gl_callV_p (c_X8_optimalPlans hP (by omega) ok) dL_law_1647 (mX8_optimalPlans) rfl lL_253 iX8_optimalPlans vX8_optimalPlans (by decide) (by omega) hb rfl rfl rfl rfl (Nat.le_of_ble_eq_true rfl) (fun v9 h1 z1 => ?_)
  have ho0 := ho
  have hR0 := hR
  obtain ⟨⟨τ, hτ, rfl⟩, hP, qoff⟩ := z1
  have ho := (qoff 114 (by omega)).trans ho0
  have hR := hR0.off qoff (by omega)
  clear ho0 hR0
  obtain ⟨I9, hm⟩ := hR.hd
  refine gl_aload_n dL_law_1650 rfl (by rfl) ?_
  refine gl_callV_p (c_M_optimalPlans hR (by omega) ok) dL_law_1651 (mX9_optimalPlans) rfl lL_256 iX9_optimalPlans vX9_optimalPlans (by decide) (by omega) hm rfl rfl rfl rfl (Nat.le_of_ble_eq_true rfl) (fun v9 h2 z2 => ?_)
  have ho1 := ho
  have hP1 := hP
  obtain ⟨rfl, hR, qoff2⟩ := z2
  have ho := (qoff2 114 (by omega)).trans ho1
  have hP := hP1.off qoff2 (by omega)
  clear ho1 hP1
  rw [w_op ok hτ]
  refine gl_icmp_eq (tgt := 2583) dL_law_1654 (by decide) (fun _ => ?_) (fun c9 => absurd rfl c9)
  exact K.to ⟨hP, ⟨_, hR⟩, ⟨_, ho⟩, hby⟩ ⟨by rfl, by rfl, by rfl, by rfl, by rfl, trivial⟩ (by omega) (by omega)

theorem w_c38 {L t kc ks : Nat} {xs : Nat → Int32} (hL : L ≤ 3072) (ht : 6 * t + 6 ≤ L) (K : w_K L xs t kc ks) {h : s_H} {π : s_Pl} (q : w_St h π) : s_GL (s_Os L xs) TL_law w_Φ 1659 (s_lvs (w_lv t)) [] h 115 (kc + 2) (ks + 12) := by
  obtain ⟨hP, ⟨t0, hR⟩, ⟨f0, ho⟩, hby⟩ := q
  obtain ⟨cnt, cp, ok⟩ := hR.ok
  have hl := hR.l
  have hlen := hR.len
  have hb := hP.1
  unfold s_po at hb
  refine gl_aload_n dL_law_1659 rfl (by rfl) ?_
  refine gl_aload_n dL_law_1660 rfl (by rfl) ?_
  refine gl_iload dL_law_1661 (by rfl) ?_
  refine gl_iconst (nI 1) dL_law_1663 (by rfl) ?_
  refine gl_iadd dL_law_1664 ?_
  refine gl_sld hL dL_law_1665 (nI_add _ _) (by omega) ?_
  refine gl_aload_n dL_law_1666 rfl (by rfl) ?_
  refine gl_callSH (c_L_weightAt hP (by omega) ho (by omega) (by omega) ok (xs (6 * t + 1))) dL_law_1667 (mL_weightAt) rfl lL_257 sL_weightAt (by decide) rfl rfl (Nat.le_of_ble_eq_true rfl) (by omega) (by omega) (fun v9 h1 z1 => ?_)
  obtain ⟨z1, qoff⟩ := z1
  obtain ⟨hm9, q1, q2⟩ := qoff.mid (by omega)
  have hR := (hR.off q1 (by omega)).off q2 (by omega)
  obtain ⟨I9, hm⟩ := hR.hd
  clear hP hb ho q1 q2 qoff
  rcases z1 with ⟨hc, rfl, hP, f1, ho, hv⟩ | ⟨hc, rfl, hP, f1, ho⟩
  · refine gl_istore dL_law_1670 (by decide) ?_
    refine gl_aload_n dL_law_1672 rfl (by rfl) ?_
    refine gl_aload_n dL_law_1673 rfl (by rfl) ?_
    refine gl_iload dL_law_1674 (by rfl) ?_
    refine gl_iconst (nI 1) dL_law_1676 (by rfl) ?_
    refine gl_iadd dL_law_1677 ?_
    refine gl_sld hL dL_law_1678 (nI_add _ _) (by omega) ?_
    refine gl_callV_p (c_M_weightAt hR (by omega) ok (xs (6 * t + 1))) dL_law_1679 (mX9_weightAt) rfl lL_259 iX9_weightAt vX9_weightAt (by decide) (by omega) hm rfl rfl rfl rfl (Nat.le_of_ble_eq_true rfl) (fun v8 h2 z2 => ?_)
    obtain ⟨z2, qoff2⟩ := z2
    have hP1 := hP.off qoff2 (by omega)
    have ho1 := (qoff2 114 (by omega)).trans ho
    clear hP ho
    have hP := hP1
    have ho := ho1
    clear hP1 ho1 hm
    rcases z2 with ⟨hd, rfl, hR⟩ | ⟨hd, ⟨z9, rfl⟩, hR⟩
    · obtain ⟨I8, hm⟩ := hR.hd
      refine gl_istore dL_law_1682 (by decide) ?_
      refine gl_aload_n dL_law_1684 rfl (by rfl) ?_
      refine gl_callV_e (c_M_thrown hR (by omega)) dL_law_1685 (mX9_thrown) rfl lL_124 iX9_thrown vX9_thrown (by decide) (by omega) hm rfl rfl rfl rfl (Nat.le_of_ble_eq_true rfl) ?_
      refine gl_iload dL_law_1688 (by rfl) ?_
      refine gl_icmp_eq (tgt := 1695) dL_law_1690 (by decide) (fun _ => ?_) (fun c9 => absurd rfl c9)
      refine gl_iload dL_law_1695 (by rfl) ?_
      refine gl_if_ne (tgt := 1712) dL_law_1697 (by decide) (fun c9 => absurd rfl c9) (fun _ => ?_)
      refine gl_aload_n dL_law_1700 rfl (by rfl) ?_
      refine gl_iconst (nI 0) dL_law_1701 (by rfl) ?_
      refine gl_lald dL_law_1702 (by exact ho) (by omega) (by rfl) (by omega) (by omega) ?_
      rw [hv]
      refine gl_iload dL_law_1703 (by rfl) ?_
      refine gl_i2l dL_law_1705 ?_
      refine gl_lcmp dL_law_1706 ?_
      refine gl_if_eq (tgt := 1712) dL_law_1707 (by decide) (fun _ => ?_) (fun c7 => absurd (w_lc _) c7)
      refine gl_goto (tgt := 2583) dL_law_1712 (by decide) ?_
      exact K.to ⟨hP, ⟨_, hR⟩, ⟨_, ho⟩, hby⟩ ⟨by rfl, by rfl, by rfl, by rfl, by rfl, trivial⟩ (by omega) (by omega)
    · (first | exact (hc hd).elim | exact (hd hc).elim)
  · refine gl_istore dL_law_1670 (by decide) ?_
    refine gl_aload_n dL_law_1672 rfl (by rfl) ?_
    refine gl_aload_n dL_law_1673 rfl (by rfl) ?_
    refine gl_iload dL_law_1674 (by rfl) ?_
    refine gl_iconst (nI 1) dL_law_1676 (by rfl) ?_
    refine gl_iadd dL_law_1677 ?_
    refine gl_sld hL dL_law_1678 (nI_add _ _) (by omega) ?_
    refine gl_callV_p (c_M_weightAt hR (by omega) ok (xs (6 * t + 1))) dL_law_1679 (mX9_weightAt) rfl lL_259 iX9_weightAt vX9_weightAt (by decide) (by omega) hm rfl rfl rfl rfl (Nat.le_of_ble_eq_true rfl) (fun v8 h2 z2 => ?_)
    obtain ⟨z2, qoff2⟩ := z2
    have hP1 := hP.off qoff2 (by omega)
    have ho1 := (qoff2 114 (by omega)).trans ho
    clear hP ho
    have hP := hP1
    have ho := ho1
    clear hP1 ho1 hm
    rcases z2 with ⟨hd, rfl, hR⟩ | ⟨hd, ⟨z9, rfl⟩, hR⟩
    · (first | exact (hc hd).elim | exact (hd hc).elim)
    · obtain ⟨I8, hm⟩ := hR.hd
      refine gl_istore dL_law_1682 (by decide) ?_
      refine gl_aload_n dL_law_1684 rfl (by rfl) ?_
      refine gl_callV_e (c_M_thrown hR (by omega)) dL_law_1685 (mX9_thrown) rfl lL_124 iX9_thrown vX9_thrown (by decide) (by omega) hm rfl rfl rfl rfl (Nat.le_of_ble_eq_true rfl) ?_
      refine gl_iload dL_law_1688 (by rfl) ?_
      refine gl_icmp_eq (tgt := 1695) dL_law_1690 (by decide) (fun _ => ?_) (fun c9 => absurd rfl c9)
      refine gl_iload dL_law_1695 (by rfl) ?_
      refine gl_if_ne (tgt := 1712) dL_law_1697 (by decide) (fun _ => ?_) (fun c9 => absurd c9 (by decide))
      refine gl_goto (tgt := 2583) dL_law_1712 (by decide) ?_
      exact K.to ⟨hP, ⟨_, hR⟩, ⟨_, ho⟩, hby⟩ ⟨by rfl, by rfl, by rfl, by rfl, by rfl, trivial⟩ (by omega) (by omega)

theorem w_c39 {L t kc ks : Nat} {xs : Nat → Int32} (hL : L ≤ 3072) (ht : 6 * t + 6 ≤ L) (K : w_K L xs t kc ks) {h : s_H} {π : s_Pl} (q : w_St h π) : s_GL (s_Os L xs) TL_law w_Φ 1715 (s_lvs (w_lv t)) [] h 115 (kc + 2) (ks + 12) := by
  obtain ⟨hP, ⟨t0, hR⟩, ⟨f0, ho⟩, hby⟩ := q
  obtain ⟨cnt, cp, ok⟩ := hR.ok
  have hl := hR.l
  have hlen := hR.len
  have hb := hP.1
  unfold s_po at hb
  refine gl_aload_n dL_law_1715 rfl (by rfl) ?_
  refine gl_aload_n dL_law_1716 rfl (by rfl) ?_
  refine gl_iload dL_law_1717 (by rfl) ?_
  refine gl_iconst (nI 1) dL_law_1719 (by rfl) ?_
  refine gl_iadd dL_law_1720 ?_
  refine gl_sld hL dL_law_1721 (nI_add _ _) (by omega) ?_
  refine gl_aload_n dL_law_1722 rfl (by rfl) ?_
  refine gl_callSH (c_L_planAt hP (by omega) ho (by omega) (by omega) ok (xs (6 * t + 1))) dL_law_1723 (mL_planAt) rfl lL_260 sL_planAt (by decide) rfl rfl (Nat.le_of_ble_eq_true rfl) (by omega) (by omega) (fun v9 h1 z1 => ?_)
  obtain ⟨z1, qoff⟩ := z1
  obtain ⟨hm9, q1, q2⟩ := qoff.mid (by omega)
  have hR := (hR.off q1 (by omega)).off q2 (by omega)
  obtain ⟨I9, hm⟩ := hR.hd
  clear hP hb ho q1 q2 qoff
  rcases z1 with ⟨hc, rfl, hP, f1, ho, hv⟩ | ⟨hc, rfl, hP, f1, ho⟩
  · refine gl_istore dL_law_1726 (by decide) ?_
    refine gl_aload_n dL_law_1728 rfl (by rfl) ?_
    refine gl_aload_n dL_law_1729 rfl (by rfl) ?_
    refine gl_iload dL_law_1730 (by rfl) ?_
    refine gl_iconst (nI 1) dL_law_1732 (by rfl) ?_
    refine gl_iadd dL_law_1733 ?_
    refine gl_sld hL dL_law_1734 (nI_add _ _) (by omega) ?_
    refine gl_callV_p (c_M_planAt hR (by omega) ok (xs (6 * t + 1))) dL_law_1735 (mX9_planAt) rfl lL_262 iX9_planAt vX9_planAt (by decide) (by omega) hm rfl rfl rfl rfl (Nat.le_of_ble_eq_true rfl) (fun v8 h2 z2 => ?_)
    obtain ⟨z2, qoff2⟩ := z2
    have hP1 := hP.off qoff2 (by omega)
    have ho1 := (qoff2 114 (by omega)).trans ho
    clear hP ho
    have hP := hP1
    have ho := ho1
    clear hP1 ho1 hm
    rcases z2 with ⟨hd, rfl, hR⟩ | ⟨hd, ⟨z9, rfl⟩, hR⟩
    · obtain ⟨I8, hm⟩ := hR.hd
      refine gl_istore dL_law_1738 (by decide) ?_
      refine gl_aload_n dL_law_1740 rfl (by rfl) ?_
      refine gl_callV_e (c_M_thrown hR (by omega)) dL_law_1741 (mX9_thrown) rfl lL_124 iX9_thrown vX9_thrown (by decide) (by omega) hm rfl rfl rfl rfl (Nat.le_of_ble_eq_true rfl) ?_
      refine gl_iload dL_law_1744 (by rfl) ?_
      refine gl_icmp_eq (tgt := 1751) dL_law_1746 (by decide) (fun _ => ?_) (fun c9 => absurd rfl c9)
      refine gl_iload dL_law_1751 (by rfl) ?_
      refine gl_if_ne (tgt := 1768) dL_law_1753 (by decide) (fun c9 => absurd rfl c9) (fun _ => ?_)
      refine gl_aload_n dL_law_1756 rfl (by rfl) ?_
      refine gl_iconst (nI 0) dL_law_1757 (by rfl) ?_
      refine gl_lald dL_law_1758 (by exact ho) (by omega) (by rfl) (by omega) (by omega) ?_
      rw [hv]
      refine gl_iload dL_law_1759 (by rfl) ?_
      refine gl_i2l dL_law_1761 ?_
      refine gl_lcmp dL_law_1762 ?_
      refine gl_if_eq (tgt := 1768) dL_law_1763 (by decide) (fun _ => ?_) (fun c7 => absurd (w_lc _) c7)
      refine gl_goto (tgt := 2583) dL_law_1768 (by decide) ?_
      exact K.to ⟨hP, ⟨_, hR⟩, ⟨_, ho⟩, hby⟩ ⟨by rfl, by rfl, by rfl, by rfl, by rfl, trivial⟩ (by omega) (by omega)
    · (first | exact (hc hd).elim | exact (hd hc).elim)
  · refine gl_istore dL_law_1726 (by decide) ?_
    refine gl_aload_n dL_law_1728 rfl (by rfl) ?_
    refine gl_aload_n dL_law_1729 rfl (by rfl) ?_
    refine gl_iload dL_law_1730 (by rfl) ?_
    refine gl_iconst (nI 1) dL_law_1732 (by rfl) ?_
    refine gl_iadd dL_law_1733 ?_
    refine gl_sld hL dL_law_1734 (nI_add _ _) (by omega) ?_
    refine gl_callV_p (c_M_planAt hR (by omega) ok (xs (6 * t + 1))) dL_law_1735 (mX9_planAt) rfl lL_262 iX9_planAt vX9_planAt (by decide) (by omega) hm rfl rfl rfl rfl (Nat.le_of_ble_eq_true rfl) (fun v8 h2 z2 => ?_)
    obtain ⟨z2, qoff2⟩ := z2
    have hP1 := hP.off qoff2 (by omega)
    have ho1 := (qoff2 114 (by omega)).trans ho
    clear hP ho
    have hP := hP1
    have ho := ho1
    clear hP1 ho1 hm
    rcases z2 with ⟨hd, rfl, hR⟩ | ⟨hd, ⟨z9, rfl⟩, hR⟩
    · (first | exact (hc hd).elim | exact (hd hc).elim)
    · obtain ⟨I8, hm⟩ := hR.hd
      refine gl_istore dL_law_1738 (by decide) ?_
      refine gl_aload_n dL_law_1740 rfl (by rfl) ?_
      refine gl_callV_e (c_M_thrown hR (by omega)) dL_law_1741 (mX9_thrown) rfl lL_124 iX9_thrown vX9_thrown (by decide) (by omega) hm rfl rfl rfl rfl (Nat.le_of_ble_eq_true rfl) ?_
      refine gl_iload dL_law_1744 (by rfl) ?_
      refine gl_icmp_eq (tgt := 1751) dL_law_1746 (by decide) (fun _ => ?_) (fun c9 => absurd rfl c9)
      refine gl_iload dL_law_1751 (by rfl) ?_
      refine gl_if_ne (tgt := 1768) dL_law_1753 (by decide) (fun _ => ?_) (fun c9 => absurd c9 (by decide))
      refine gl_goto (tgt := 2583) dL_law_1768 (by decide) ?_
      exact K.to ⟨hP, ⟨_, hR⟩, ⟨_, ho⟩, hby⟩ ⟨by rfl, by rfl, by rfl, by rfl, by rfl, trivial⟩ (by omega) (by omega)
