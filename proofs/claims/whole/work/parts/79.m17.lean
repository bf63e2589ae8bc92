/-! THE MODEL: best plans pinned, backups, undo, snapshot, input -/

theorem c_M_pinBest {h : s_H} {n m : Nat} {π : s_Pl} {t : Int32} (hR : m_R h m π t) (hn : m + 21 ≤ n) {cnt cp : Nat} (ok : d_ok π.1 cnt cp) : s_Mt TX9_pinBest 0 0 [.ref m] h n (s_rp n (fun v9 h1 => ((¬ u_best π.1 cnt cp = r_NP ∧ v9 = some (.int (nI (d_kc (π.1.1 3) (r_st (u_best π.1 cnt cp)) cnt))) ∧ m_R h1 m (d_kps π.1 (r_st (u_best π.1 cnt cp)) cnt, (pl_rem π).2) 0) ∨ (u_best π.1 cnt cp = r_NP ∧ (∃ z, v9 = some (.int z)) ∧ m_R h1 m π 1)) ∧ s_off h h1 m (m + 21)) s_no) := by
  obtain ⟨I, w, sn, P, tx, rp, hP, -, hr1, hrr⟩ := hR
  have hM := hP.1
  have hT := hP.2.2.2.2.2.2.2
  have hm := hM.1
  have hw := hM.2
  have hoff : s_off h h m (m + 21) := s_off.rf
  have he : d_eq cnt (m_D w) π.1 := by
    obtain ⟨c9, p9, o9, e9⟩ := id hr1
    obtain rfl : c9 = cnt := o9.cn.symm.trans ok.cn
    exact e9
  have okm := he.sy.ok ok
  have hc := okm.1
  have h14 := ok.2.1
  have hcp := okm.2.2.1
  have h100 := ok.2.2.2.1
  refine s_Mt_of rfl (by decide) (by exact Nat.le_of_ble_eq_true rfl) ?_
  refine g_aload_n dX9_pinBest_0 rfl (by rfl) ?_
  refine g_iconst 0 dX9_pinBest_1 (by rfl) ?_
  refine g_putf' dX9_pinBest_2 pX9_59 (by exact hm) (by omega) (by exact Nat.le_of_ble_eq_true rfl) (by rfl) (by rfl) (fun h31 e31 => ?_)
  first | have hm_31 := s_up_off e31 (by omega) hm | have hm_31 := s_up_at e31
  first | have hw_31 := s_up_off e31 (by omega) hw | have hw_31 := s_up_at e31
  have hM := hM.th e31
  have qoff : s_off _ h31 m (m + 1) := s_off.rf.up e31 (by omega)
  have hT := hT.off qoff (by omega)
  have hP := hP.q (qoff.wide (a' := m) (b' := m + 2) (by omega) (by omega)).l2 hM hT
  have hoff := hoff.trans (qoff.wide (a' := m) (b' := m + 21) (by omega) (by omega))
  have hm := hM.1
  have hw := hM.2
  refine g_aload_n dX9_pinBest_5 rfl (by rfl) ?_
  refine g_callV_p (c_X9_best hM hn okm hT) dX9_pinBest_6 (mX9_best) rfl lX9_123 iX9_best vX9_best (by decide) (by omega) (by exact hm) rfl rfl rfl rfl (Nat.le_of_ble_eq_true rfl) (fun v9 h9 z9 => ?_)
  obtain ⟨rfl, hT, qoff⟩ := z9
  have hM := hM.off qoff (by omega)
  have hP := hP.q qoff.r2 hM hT
  have hoff := hoff.trans (qoff.wide (a' := m) (b' := m + 21) (by omega) (by omega))
  have hm := hM.1
  have hw := hM.2
  refine g_istore_n dX9_pinBest_9 rfl (by decide) ?_
  refine g_aload_n dX9_pinBest_10 rfl (by rfl) ?_
  refine g_iload_n dX9_pinBest_11 rfl (by rfl) ?_
  refine g_iconst (-1) dX9_pinBest_12 (by rfl) ?_
  refine g_icmp_ne (tgt := 20) dX9_pinBest_13 (by decide) (fun c_13 => ?_) (fun c_13 => ?_)
  · have hnp : ¬ u_best (m_D w) cnt cp = r_NP := fun z => c_13 ((m_best okm h100).1.mpr z)
    refine g_iconst 0 dX9_pinBest_20 (by rfl) ?_
    refine g_iconst 1 dX9_pinBest_21 (by rfl) ?_
    refine g_callV_p (c_X9_raise hM hn 0 1 (by decide)) dX9_pinBest_22 (mX9_raise) rfl lX9_145 iX9_raise vX9_raise (by decide) (by omega) (by exact hm) rfl rfl rfl rfl (Nat.le_of_ble_eq_true rfl) (fun v9 h9 z9 => ?_)
    obtain ⟨rfl, hM, qoff⟩ := z9
    have hT := hT.off qoff (by omega)
    have hP := hP.q (qoff.wide (a' := m) (b' := m + 2) (by omega) (by omega)).l2 hM hT
    have hoff := hoff.trans (qoff.wide (a' := m) (b' := m + 21) (by omega) (by omega))
    have hm := hM.1
    have hw := hM.2
    refine g_if_eq (tgt := 30) dX9_pinBest_25 (by decide) (fun _ => ?_) (fun c_25 => absurd rfl c_25)
    refine g_aload_n dX9_pinBest_30 rfl (by rfl) ?_
    refine g_aload_n dX9_pinBest_31 rfl (by rfl) ?_
    refine g_getf dX9_pinBest_32 fX9_9 (by exact hm) (by omega) (by rfl) ?_
    obtain ⟨pm, hQ⟩ := hP.2.1
    refine g_callV_p (c_X9_remember hm hQ hw hn (by omega) (by omega) (show upd I 0 0 3 = nI π.2.2.2.2.1 from hrr.2.1.2.1) hrr.2.1.1) dX9_pinBest_35 (mX9_remember) rfl lX9_130 iX9_remember vX9_remember (by decide) (by omega) (by exact hm) rfl rfl rfl rfl (Nat.le_of_ble_eq_true rfl) (fun v9 h9 z9 => ?_)
    obtain ⟨rfl, hm1, ⟨pm1, P1, hQ1, hrb⟩, qoff⟩ := z9
    have hP := hP.rem qoff hm1 ⟨pm1, hQ1⟩
    have hM := hP.1
    have hT := hP.2.2.2.2.2.2.2
    have hr3 := m_r3_rem (x := 0) hr1 hrr.2.1 hrb
    have hoff := hoff.trans (qoff.one (x := m) (y := m + 21) (by omega) (by omega) (by omega) (by omega))
    have hm := hM.1
    have hw := hM.2
    refine g_aload_n dX9_pinBest_38 rfl (by rfl) ?_
    refine g_iload_n dX9_pinBest_39 rfl (by rfl) ?_
    refine g_callV_p (c_X9_pinAll hM hn hc h14 (r_st (u_best (m_D w) cnt cp))) dX9_pinBest_40 (mX9_pinAll) rfl lX9_149 iX9_pinAll vX9_pinAll (by decide) (by omega) (by exact hm) rfl rfl rfl rfl (Nat.le_of_ble_eq_true rfl) (fun v9 h9 z9 => ?_)
    obtain ⟨rfl, ⟨w8, hM, he8⟩, qoff⟩ := z9
    have hT := hT.off qoff (by omega)
    have hP := hP.q (qoff.wide (a' := m) (b' := m + 2) (by omega) (by omega)).l2 hM hT
    have hoff := hoff.trans (qoff.wide (a' := m) (b' := m + 21) (by omega) (by omega))
    have hm := hM.1
    have hw := hM.2
    refine g_ireturn dX9_pinBest_43 rfl ?_
    (refine ⟨rfl, Or.inl ⟨fun z => hnp (he.best.trans z), ?_, (by rw [← he.best]; exact ⟨_, _, _, _, _, _, hP, rfl, ⟨cnt, cp, ok.kps _, he8.tr he.kps⟩, hrr.1, hr3, hrr.2.2⟩)⟩, hoff⟩; (rw [he.kc cnt (Nat.le_refl _), he.best]))
  · have hpp : u_best (m_D w) cnt cp = r_NP := (m_best okm h100).1.mp c_13
    refine g_iconst 1 dX9_pinBest_16 (by rfl) ?_
    refine g_goto (tgt := 21) dX9_pinBest_17 (by decide) ?_
    refine g_iconst 1 dX9_pinBest_21 (by rfl) ?_
    refine g_callV_p (c_X9_raise hM hn 1 1 (by decide)) dX9_pinBest_22 (mX9_raise) rfl lX9_145 iX9_raise vX9_raise (by decide) (by omega) (by exact hm) rfl rfl rfl rfl (Nat.le_of_ble_eq_true rfl) (fun v9 h9 z9 => ?_)
    obtain ⟨rfl, hM, qoff⟩ := z9
    have hT := hT.off qoff (by omega)
    have hP := hP.q (qoff.wide (a' := m) (b' := m + 2) (by omega) (by omega)).l2 hM hT
    have hoff := hoff.trans (qoff.wide (a' := m) (b' := m + 21) (by omega) (by omega))
    have hm := hM.1
    have hw := hM.2
    refine g_if_eq (tgt := 30) dX9_pinBest_25 (by decide) (fun c_25 => absurd c_25 (by decide)) (fun _ => ?_)
    refine g_iconst 0 dX9_pinBest_28 (by rfl) ?_
    refine g_ireturn dX9_pinBest_29 rfl ?_
    exact ⟨rfl, Or.inr ⟨he.best.symm.trans hpp, ⟨_, rfl⟩, ⟨_, _, _, _, _, _, hP, rfl, hr1, hrr⟩⟩, hoff⟩

theorem c_M_runBackup {h : s_H} {n m : Nat} {π : s_Pl} {t : Int32} (hR : m_R h m π t) (hn : m + 21 ≤ n) {cnt cp : Nat} (ok : d_ok π.1 cnt cp) : s_Mt TX9_runBackup 0 0 [.ref m] h n (s_rp n (fun v9 h1 => v9 = some (.int (v_tk π.1 cnt cp)) ∧ m_R h1 m (d_bk π.1 (v_tk π.1 cnt cp) cnt, (pl_rem π).2) 0 ∧ s_off h h1 m (m + 21)) s_no) := by
  obtain ⟨I, w, sn, P, tx, rp, hP, -, hr1, hrr⟩ := hR
  have hM := hP.1
  have hT := hP.2.2.2.2.2.2.2
  have hm := hM.1
  have hw := hM.2
  have hoff : s_off h h m (m + 21) := s_off.rf
  have he : d_eq cnt (m_D w) π.1 := by
    obtain ⟨c9, p9, o9, e9⟩ := id hr1
    obtain rfl : c9 = cnt := o9.cn.symm.trans ok.cn
    exact e9
  have okm := he.sy.ok ok
  have hc := okm.1
  have h14 := ok.2.1
  have hcp := okm.2.2.1
  have h100 := ok.2.2.2.1
  refine s_Mt_of rfl (by decide) (by exact Nat.le_of_ble_eq_true rfl) ?_
  refine g_aload_n dX9_runBackup_0 rfl (by rfl) ?_
  refine g_iconst 0 dX9_runBackup_1 (by rfl) ?_
  refine g_putf' dX9_runBackup_2 pX9_59 (by exact hm) (by omega) (by exact Nat.le_of_ble_eq_true rfl) (by rfl) (by rfl) (fun h31 e31 => ?_)
  first | have hm_31 := s_up_off e31 (by omega) hm | have hm_31 := s_up_at e31
  first | have hw_31 := s_up_off e31 (by omega) hw | have hw_31 := s_up_at e31
  have hM := hM.th e31
  have qoff : s_off _ h31 m (m + 1) := s_off.rf.up e31 (by omega)
  have hT := hT.off qoff (by omega)
  have hP := hP.q (qoff.wide (a' := m) (b' := m + 2) (by omega) (by omega)).l2 hM hT
  have hoff := hoff.trans (qoff.wide (a' := m) (b' := m + 21) (by omega) (by omega))
  have hm := hM.1
  have hw := hM.2
  refine g_aload_n dX9_runBackup_5 rfl (by rfl) ?_
  refine g_aload_n dX9_runBackup_6 rfl (by rfl) ?_
  refine g_getf dX9_runBackup_7 fX9_9 (by exact hm) (by omega) (by rfl) ?_
  obtain ⟨pm, hQ⟩ := hP.2.1
  refine g_callV_p (c_X9_remember hm hQ hw hn (by omega) (by omega) (show upd I 0 0 3 = nI π.2.2.2.2.1 from hrr.2.1.2.1) hrr.2.1.1) dX9_runBackup_10 (mX9_remember) rfl lX9_130 iX9_remember vX9_remember (by decide) (by omega) (by exact hm) rfl rfl rfl rfl (Nat.le_of_ble_eq_true rfl) (fun v9 h9 z9 => ?_)
  obtain ⟨rfl, hm1, ⟨pm1, P1, hQ1, hrb⟩, qoff⟩ := z9
  have hP := hP.rem qoff hm1 ⟨pm1, hQ1⟩
  have hM := hP.1
  have hT := hP.2.2.2.2.2.2.2
  have hr3 := m_r3_rem (x := 0) hr1 hrr.2.1 hrb
  have hoff := hoff.trans (qoff.one (x := m) (y := m + 21) (by omega) (by omega) (by omega) (by omega))
  have hm := hM.1
  have hw := hM.2
  refine g_aload_n dX9_runBackup_13 rfl (by rfl) ?_
  refine g_callV_p (c_X9_backup hM hn okm hT) dX9_runBackup_14 (mX9_backup) rfl lX9_127 iX9_backup vX9_backup (by decide) (by omega) (by exact hm) rfl rfl rfl rfl (Nat.le_of_ble_eq_true rfl) (fun v9 h9 z9 => ?_)
  obtain ⟨rfl, ⟨w8, hM, he8⟩, hT, qoff⟩ := z9
  have qoff9 : s_off2 _ _ m (m + 2) (m + 18) (m + 21) := fun j a b => qoff j (by omega) b
  have hP := hP.q qoff9 hM hT
  have hoff := hoff.trans (qoff9.one (x := m) (y := m + 21) (by omega) (by omega) (by omega) (by omega))
  have hm := hM.1
  have hw := hM.2
  refine g_ireturn dX9_runBackup_17 rfl ?_
  (refine ⟨rfl, ?_, (by rw [← he.tk]; exact ⟨_, _, _, _, _, _, hP, rfl, ⟨cnt, cp, ok.bk _, he8.tr (he.bk _)⟩, hrr.1, hr3, hrr.2.2⟩), hoff⟩; (rw [he.tk]))

theorem d_eq.bnn {cnt cp : Nat} {σ τ : s_D} (q : d_eq cnt σ τ) (k : Nat) : d_eq cnt (v_bn σ cnt cp k) (v_bn τ cnt cp k) := q.bn k
/-- what the backups take is a set -/
theorem m_un {σ : s_D} {cnt cp : Nat} (ok : d_ok σ cnt cp) : ∀ k, ∃ M, M < 16384 ∧ v_un σ cnt cp k = nI M
  | 0 => ⟨0, by omega, rfl⟩
  | k + 1 => by
    obtain ⟨M, h1, h2⟩ := m_un ok k
    have okk := v_bn_ok ok k
    have h14 := ok.2.1
    have ht : ∃ N, N < 16384 ∧ v_tk (v_bn σ cnt cp k) cnt cp = nI N := by
      unfold v_tk
      by_cases hr : k_P (v_bn σ cnt cp k) cnt ≤ cp
      · exact ⟨_, ka_M14 h14, (k_tell okk ok.2.2.2.1 hr).2.2.2.1⟩
      · rw [k_none okk ok.2.2.2.1 (by omega)]
        exact ⟨0, by omega, rfl⟩
    obtain ⟨N, g1, g2⟩ := ht
    exact ⟨M ||| N, Nat.or_lt_two_pow (n := 14) h1 g1, by show v_un σ cnt cp k ||| _ = _; rw [h2, g2, nI_or]⟩

theorem c_M_runBackups {h : s_H} {n m : Nat} {π : s_Pl} {t : Int32} (hR : m_R h m π t) (hn : m + 21 ≤ n) {cnt cp : Nat} (ok : d_ok π.1 cnt cp) (x : Int32) : s_Mt TX9_runBackups 0 0 [.ref m, .int x] h n (s_rp n (fun v9 h1 => ((¬ (x < 1 ∨ 50 < x) ∧ v9 = some (.int (s_bc (v_un π.1 cnt cp x.toNatClampNeg))) ∧ m_R h1 m (v_bn π.1 cnt cp x.toNatClampNeg, (pl_rem π).2) 0) ∨ (¬ ¬ (x < 1 ∨ 50 < x) ∧ (∃ z, v9 = some (.int z)) ∧ m_R h1 m π 1)) ∧ s_off h h1 m (m + 21)) s_no) := by
  obtain ⟨I, w, sn, P, tx, rp, hP, -, hr1, hrr⟩ := hR
  have hM := hP.1
  have hT := hP.2.2.2.2.2.2.2
  have hm := hM.1
  have hw := hM.2
  have hoff : s_off h h m (m + 21) := s_off.rf
  have he : d_eq cnt (m_D w) π.1 := by
    obtain ⟨c9, p9, o9, e9⟩ := id hr1
    obtain rfl : c9 = cnt := o9.cn.symm.trans ok.cn
    exact e9
  have okm := he.sy.ok ok
  have hc := okm.1
  have h14 := ok.2.1
  have hcp := okm.2.2.1
  have h100 := ok.2.2.2.1
  refine s_Mt_of rfl (by decide) (by exact Nat.le_of_ble_eq_true rfl) ?_
  refine g_aload_n dX9_runBackups_0 rfl (by rfl) ?_
  refine g_iconst 0 dX9_runBackups_1 (by rfl) ?_
  refine g_putf' dX9_runBackups_2 pX9_59 (by exact hm) (by omega) (by exact Nat.le_of_ble_eq_true rfl) (by rfl) (by rfl) (fun h31 e31 => ?_)
  first | have hm_31 := s_up_off e31 (by omega) hm | have hm_31 := s_up_at e31
  first | have hw_31 := s_up_off e31 (by omega) hw | have hw_31 := s_up_at e31
  have hM := hM.th e31
  have qoff : s_off _ h31 m (m + 1) := s_off.rf.up e31 (by omega)
  have hT := hT.off qoff (by omega)
  have hP := hP.q (qoff.wide (a' := m) (b' := m + 2) (by omega) (by omega)).l2 hM hT
  have hoff := hoff.trans (qoff.wide (a' := m) (b' := m + 21) (by omega) (by omega))
  have hm := hM.1
  have hw := hM.2
  refine g_aload_n dX9_runBackups_5 rfl (by rfl) ?_
  refine g_iload_n dX9_runBackups_6 rfl (by rfl) ?_
  refine g_iconst 1 dX9_runBackups_7 (by rfl) ?_
  refine g_bipush 50 dX9_runBackups_8 (by rfl) ?_
  refine g_iconst 1 dX9_runBackups_10 (by rfl) ?_
  refine g_callV_p (c_X9_outside hM hn x 1 50 1) dX9_runBackups_11 (mX9_outside) rfl lX9_69 iX9_outside vX9_outside (by decide) (by omega) (by exact hm) rfl rfl rfl rfl (Nat.le_of_ble_eq_true rfl) (fun v9 h9 z9 => ?_)
  obtain ⟨rfl, hM, qoff⟩ := z9
  have hT := hT.off qoff (by omega)
  have hP := hP.q (qoff.wide (a' := m) (b' := m + 2) (by omega) (by omega)).l2 hM hT
  have hoff := hoff.trans (qoff.wide (a' := m) (b' := m + 21) (by omega) (by omega))
  refine g_if_eq (tgt := 19) dX9_runBackups_14 (by decide) (fun c_14 => ?_) (fun c_14 => ?_)
  · have hin : ¬ (x < 1 ∨ 50 < x) := fun z => by rw [if_pos z] at c_14; exact absurd c_14 (by decide)
    rw [if_neg hin] at hM hP
    have hm := hM.1
    have hw := hM.2
    obtain ⟨q, hq9, rfl⟩ := nI_of (x := x) (fun z => hin (Or.inl (by rw [Int32.lt_iff_toInt_lt] at z ⊢; exact Int.lt_trans z (by decide))))
    have hq50 : q ≤ 50 := Nat.le_of_not_lt fun z => hin (Or.inr (nI_lt z hq9))
    refine g_aload_n dX9_runBackups_19 rfl (by rfl) ?_
    refine g_aload_n dX9_runBackups_20 rfl (by rfl) ?_
    refine g_getf dX9_runBackups_21 fX9_9 (by exact hm) (by omega) (by rfl) ?_
    obtain ⟨pm, hQ⟩ := hP.2.1
    refine g_callV_p (c_X9_remember hm hQ hw hn (by omega) (by omega) (show upd I 0 0 3 = nI π.2.2.2.2.1 from hrr.2.1.2.1) hrr.2.1.1) dX9_runBackups_24 (mX9_remember) rfl lX9_130 iX9_remember vX9_remember (by decide) (by omega) (by exact hm) rfl rfl rfl rfl (Nat.le_of_ble_eq_true rfl) (fun v9 h9 z9 => ?_)
    obtain ⟨rfl, hm1, ⟨pm1, P1, hQ1, hrb⟩, qoff⟩ := z9
    have hP := hP.rem qoff hm1 ⟨pm1, hQ1⟩
    have hM := hP.1
    have hT := hP.2.2.2.2.2.2.2
    have hr3 := m_r3_rem (x := 0) hr1 hrr.2.1 hrb
    have hoff := hoff.trans (qoff.one (x := m) (y := m + 21) (by omega) (by omega) (by omega) (by omega))
    have hm := hM.1
    have hw := hM.2
    refine g_aload_n dX9_runBackups_27 rfl (by rfl) ?_
    refine g_iload_n dX9_runBackups_28 rfl (by rfl) ?_
    refine g_callV_p (c_X9_backupAll hM hn okm hT (q := q) (by omega)) dX9_runBackups_29 (mX9_backupAll) rfl lX9_152 iX9_backupAll vX9_backupAll (by decide) (by omega) (by exact hm) rfl rfl rfl rfl (Nat.le_of_ble_eq_true rfl) (fun v9 h9 z9 => ?_)
    obtain ⟨rfl, ⟨w8, hM, he8⟩, hT, qoff⟩ := z9
    have qoff9 : s_off2 _ _ m (m + 2) (m + 18) (m + 21) := fun j a b => qoff j (by omega) b
    have hP := hP.q qoff9 hM hT
    have hoff := hoff.trans (qoff9.one (x := m) (y := m + 21) (by omega) (by omega) (by omega) (by omega))
    have hm := hM.1
    have hw := hM.2
    obtain ⟨M, hMl, hMe⟩ := m_un okm q
    rw [hMe]
    refine g_callS_e (c_X9_ones hMl) dX9_runBackups_32 (mX9_ones) rfl lX9_155 sX9_ones (by decide) rfl rfl (Nat.le_of_ble_eq_true rfl) ?_
    rw [← hMe]
    refine g_ireturn dX9_runBackups_35 rfl ?_
    first | (refine ⟨rfl, Or.inl ⟨hin, ?_, (by rw [nI_clamp (by omega)]; exact ⟨_, _, _, _, _, _, hP, rfl, ⟨cnt, cp, v_bn_ok ok q, he8.tr (he.bn q)⟩, hrr.1, hr3, hrr.2.2⟩)⟩, hoff⟩; (rw [nI_clamp (by omega), he.un])) | exact ⟨rfl, Or.inr ⟨hin, ⟨_, rfl⟩, ⟨_, _, _, _, _, _, hP, rfl, hr1, hrr⟩⟩, hoff⟩
  · have hno : x < 1 ∨ 50 < x := Classical.byContradiction fun z => c_14 (by rw [if_neg z])
    rw [if_pos hno] at hM hP
    have hin : ¬ ¬ (x < 1 ∨ 50 < x) := fun z => z hno
    have hm := hM.1
    have hw := hM.2
    refine g_iconst 0 dX9_runBackups_17 (by rfl) ?_
    refine g_ireturn dX9_runBackups_18 rfl ?_
    first | (refine ⟨rfl, Or.inl ⟨hin, ?_, (by rw [nI_clamp (by omega)]; exact ⟨_, _, _, _, _, _, hP, rfl, ⟨cnt, cp, v_bn_ok ok q, he8.tr (he.bn q)⟩, hrr.1, hr3, hrr.2.2⟩)⟩, hoff⟩; (rw [nI_clamp (by omega), he.un])) | exact ⟨rfl, Or.inr ⟨hin, ⟨_, rfl⟩, ⟨_, _, _, _, _, _, hP, rfl, hr1, hrr⟩⟩, hoff⟩

theorem c_M_undo0 {h : s_H} {n m : Nat} {π : s_Pl} {t : Int32} (hR : m_R h m π t) (hn : m + 21 ≤ n) (hl0 : π.2.2.2.2.1 = 0) : s_Mt TX9_undo 0 0 [.ref m] h n (s_rp n (fun v9 h1 => v9 = some (.int (-1)) ∧ m_R h1 m π 0 ∧ s_off h h1 m (m + 21)) s_no) := by
  obtain ⟨I, w, sn, P, tx, rp, hP, -, hr1, hrr⟩ := hR
  have hM := hP.1
  have hT := hP.2.2.2.2.2.2.2
  have hm := hM.1
  have hw := hM.2
  have hoff : s_off h h m (m + 21) := s_off.rf
  refine s_Mt_of rfl (by decide) (by exact Nat.le_of_ble_eq_true rfl) ?_
  refine g_aload_n dX9_undo_0 rfl (by rfl) ?_
  refine g_iconst 0 dX9_undo_1 (by rfl) ?_
  refine g_putf' dX9_undo_2 pX9_59 (by exact hm) (by omega) (by exact Nat.le_of_ble_eq_true rfl) (by rfl) (by rfl) (fun h31 e31 => ?_)
  first | have hm_31 := s_up_off e31 (by omega) hm | have hm_31 := s_up_at e31
  first | have hw_31 := s_up_off e31 (by omega) hw | have hw_31 := s_up_at e31
  have hM := hM.th e31
  have qoff : s_off _ h31 m (m + 1) := s_off.rf.up e31 (by omega)
  have hT := hT.off qoff (by omega)
  have hP := hP.q (qoff.wide (a' := m) (b' := m + 2) (by omega) (by omega)).l2 hM hT
  have hoff := hoff.trans (qoff.wide (a' := m) (b' := m + 21) (by omega) (by omega))
  have hm := hM.1
  have hw := hM.2
  refine g_aload_n dX9_undo_5 rfl (by rfl) ?_
  refine g_getf dX9_undo_6 fX9_62 (by exact hm) (by omega) (by rfl) ?_
  rw [show upd I 0 0 3 = 0 from (show I 3 = nI π.2.2.2.2.1 from hrr.2.1.2.1).trans (by rw [hl0]; rfl)]
  refine g_if_ne (tgt := 14) dX9_undo_9 (by decide) (fun c_9 => absurd rfl c_9) (fun _ => ?_)
  refine g_iconst (-1) dX9_undo_12 (by rfl) ?_
  refine g_ireturn dX9_undo_13 rfl ?_
  exact ⟨rfl, rfl, ⟨_, _, _, _, _, _, hP, rfl, hr1, hrr⟩, hoff⟩

theorem m_r3_un {I : Nat → Int32} {P : Nat → Nat → Int32} {σ σ2 : s_D} {σs : s_D} {sv : Int32} {D : Nat → s_D} {l : Nat} {πr : (Nat → Int32) × Nat × Int32 × Int32 × List Int32} (r3 : m_r3 I P (σ, σs, sv, D, l + 1, πr)) {J : Nat → Int32} (hJ : J 3 = nI l) : m_r3 J P (σ2, σs, sv, D, l, πr) :=
  ⟨Nat.le_trans (Nat.le_succ _) r3.1, hJ, fun i hi => r3.2.2 i (Nat.lt_succ_of_lt hi)⟩

theorem c_M_undo {h : s_H} {n m : Nat} {σ : s_D} {σs : s_D} {sv : Int32} {D : Nat → s_D} {l : Nat} {πr : (Nat → Int32) × Nat × Int32 × Int32 × List Int32} {t : Int32} (hR : m_R h m (σ, σs, sv, D, l + 1, πr) t) (hn : m + 21 ≤ n) : s_Mt TX9_undo 0 0 [.ref m] h n (s_rp n (fun v9 h1 => v9 = some (.int (nI l)) ∧ m_R h1 m (d_cpy (D l) σ, σs, sv, D, l, πr) 0 ∧ s_off h h1 m (m + 21)) s_no) := by
  obtain ⟨I, w, sn, P, tx, rp, hP, -, hr1, hrr⟩ := hR
  have hM := hP.1
  have hT := hP.2.2.2.2.2.2.2
  have hm := hM.1
  have hw := hM.2
  have hoff : s_off h h m (m + 21) := s_off.rf
  have hl10 : l + 1 ≤ 10 := hrr.2.1.1
  refine s_Mt_of rfl (by decide) (by exact Nat.le_of_ble_eq_true rfl) ?_
  refine g_aload_n dX9_undo_0 rfl (by rfl) ?_
  refine g_iconst 0 dX9_undo_1 (by rfl) ?_
  refine g_putf' dX9_undo_2 pX9_59 (by exact hm) (by omega) (by exact Nat.le_of_ble_eq_true rfl) (by rfl) (by rfl) (fun h31 e31 => ?_)
  first | have hm_31 := s_up_off e31 (by omega) hm | have hm_31 := s_up_at e31
  first | have hw_31 := s_up_off e31 (by omega) hw | have hw_31 := s_up_at e31
  first | have qk_31 := s_up_off e31 (by omega) qk | have qk_31 := s_up_at e31
  have hM := hM.th e31
  have qoff : s_off _ h31 m (m + 1) := s_off.rf.up e31 (by omega)
  have hT := hT.off qoff (by omega)
  have hP := hP.q (qoff.wide (a' := m) (b' := m + 2) (by omega) (by omega)).l2 hM hT
  have hoff := hoff.trans (qoff.wide (a' := m) (b' := m + 21) (by omega) (by omega))
  have hm := hM.1
  have hw := hM.2
  refine g_aload_n dX9_undo_5 rfl (by rfl) ?_
  refine g_getf dX9_undo_6 fX9_62 (by exact hm) (by omega) (by rfl) ?_
  rw [show upd I 0 0 3 = nI (l + 1) from hrr.2.1.2.1]
  refine g_if_ne (tgt := 14) dX9_undo_9 (by decide) (fun _ => ?_) (fun c_9 => absurd c_9 (show ¬ nI (l + 1) = nI 0 from fun z => by have := nI_inj (by omega) (by omega) z; omega))
  refine g_aload_n dX9_undo_14 rfl (by rfl) ?_
  refine g_dup dX9_undo_15 (by rfl) ?_
  refine g_getf dX9_undo_16 fX9_62 (by exact hm) (by omega) (by rfl) ?_
  rw [show upd I 0 0 3 = nI (l + 1) from hrr.2.1.2.1]
  refine g_iconst 1 dX9_undo_19 (by rfl) ?_
  refine g_isub dX9_undo_20 ?_
  rw [nI_pred]
  refine g_putf' dX9_undo_21 pX9_62 (by exact hm) (by omega) (by exact Nat.le_of_ble_eq_true rfl) (by rfl) (by rfl) (fun h32 e32 => ?_)
  first | have hm_32 := s_up_off e32 (by omega) hm | have hm_32 := s_up_at e32
  first | have hw_32 := s_up_off e32 (by omega) hw | have hw_32 := s_up_at e32
  have hM : m_at h32 m (upd (upd I 0 0) 3 (nI l)) w := ⟨hm_32, hw_32⟩
  have qoff : s_off _ h32 m (m + 1) := s_off.rf.up e32 (by omega)
  have hT := hT.off qoff (by omega)
  have hP := hP.q (qoff.wide (a' := m) (b' := m + 2) (by omega) (by omega)).l2 hM hT
  have hoff := hoff.trans (qoff.wide (a' := m) (b' := m + 21) (by omega) (by omega))
  obtain ⟨pm, ⟨⟨f, qk, hf⟩, hpm, hinj, hds⟩⟩ := hP.2.1
  have hm := hM.1
  have hw := hM.2
  refine g_aload_n dX9_undo_24 rfl (by rfl) ?_
  refine g_getf dX9_undo_25 fX9_15 (by exact hm) (by omega) (by rfl) ?_
  refine g_aload_n dX9_undo_28 rfl (by rfl) ?_
  refine g_getf dX9_undo_29 fX9_62 (by exact hm) (by omega) (by rfl) ?_
  rw [show upd (upd I 0 0) 3 (nI l) 3 = nI l from upd_at]
  refine g_aaldI dX9_undo_32 (by exact qk) (by omega) (by rfl) (by omega) (by omega) (by exact hf l (by omega)) ?_
  refine g_aload_n dX9_undo_33 rfl (by rfl) ?_
  refine g_getf dX9_undo_34 fX9_9 (by exact hm) (by omega) (by rfl) ?_
  refine g_callS_p (c_X9_copy (hds l (by omega)) hw (by have := hpm l (by omega); omega) (by omega) (by omega)) dX9_undo_37 (mX9_copy) rfl lX9_65 sX9_copy (by decide) rfl rfl (Nat.le_of_ble_eq_true rfl) (fun v9 h9 z9 => ?_)
  obtain ⟨rfl, ⟨g2, hg2, hgw2⟩, qoff⟩ := z9
  have hP := hP.wc qoff hg2
  have hM := hP.1
  have hoff := hoff.trans (qoff.wide (a' := m) (b' := m + 21) (by omega) (by omega))
  have hm := hM.1
  have hw := hM.2
  refine g_aload_n dX9_undo_40 rfl (by rfl) ?_
  refine g_getf dX9_undo_41 fX9_62 (by exact hm) (by omega) (by rfl) ?_
  rw [show upd (upd I 0 0) 3 (nI l) 3 = nI l from upd_at]
  refine g_ireturn dX9_undo_44 rfl ?_
  obtain ⟨c9, p9, o9, e9⟩ := hrr.2.1.2.2 l (Nat.lt_succ_self l)
  have hr9 : m_r1 g2 (d_cpy (D l) σ, σs, sv, D, l, πr) := ⟨c9, p9, (d_eq.cpy o9.2.1 (D l) σ).sy.ok o9, ((m_D_61 hgw2 o9.2.1).tr e9).tr (d_eq.cpy o9.2.1 (D l) σ).sy⟩
  exact ⟨rfl, rfl, ⟨_, _, _, _, _, _, hP, rfl, hr9, hrr.1, m_r3_un hrr.2.1 upd_at, hrr.2.2⟩, hoff⟩

theorem m_pl.sc {h h1 : s_H} {m : Nat} {I w sn tx rp g : Nat → Int32} {P : Nat → Nat → Int32} (q : m_pl h m I w sn P tx rp) (z : s_off h h1 (m + 13) (m + 14)) (e : h1 (m + 13) = .inl (0, 61, .inl g)) : m_pl h1 m I w g P tx rp := by
  obtain ⟨q1, ⟨pm, q2⟩, -, ⟨f, q4⟩, ⟨f5, q5⟩, q6, q7, q8⟩ := q
  exact ⟨q1.off z (by omega), ⟨pm, q2.kp (fun j a b => z j (by omega))⟩, e, ⟨f, (z _ (by omega)).trans q4⟩, ⟨f5, (z _ (by omega)).trans q5⟩, (z _ (by omega)).trans q6, (z _ (by omega)).trans q7, q8.off z (by omega)⟩
theorem m_pl.fl {h h1 : s_H} {m : Nat} {I w sn tx rp : Nat → Int32} {P : Nat → Nat → Int32} (q : m_pl h m I w sn P tx rp) {I1 : Nat → Int32} (z : s_off h h1 m (m + 1)) (e : h1 m = .inr (7, m_fs m I1)) : m_pl h1 m I1 w sn P tx rp :=
  q.q (z.wide (a' := m) (b' := m + 2) (by omega) (by omega)).l2 ⟨e, (z _ (by omega)).trans q.1.2⟩ (q.2.2.2.2.2.2.2.off z (by omega))

theorem c_M_saveSnapshot {h : s_H} {n m : Nat} {π : s_Pl} {t : Int32} (hR : m_R h m π t) (hn : m + 21 ≤ n) {cnt cp : Nat} (ok : d_ok π.1 cnt cp) : s_Mt TX9_saveSnapshot 0 0 [.ref m] h n (s_rp n (fun v9 h1 => v9 = some (.int (π.1.2 0)) ∧ m_R h1 m (π.1, d_cpy π.1 π.2.1, 1, π.2.2.2) 0 ∧ s_off h h1 m (m + 21)) s_no) := by
  obtain ⟨I, w, sn, P, tx, rp, hP, -, hr1, hrr⟩ := hR
  have hM := hP.1
  have hT := hP.2.2.2.2.2.2.2
  have hm := hM.1
  have hw := hM.2
  have hoff : s_off h h m (m + 21) := s_off.rf
  have he : d_eq cnt (m_D w) π.1 := by
    obtain ⟨c9, p9, o9, e9⟩ := id hr1
    obtain rfl : c9 = cnt := o9.cn.symm.trans ok.cn
    exact e9
  have okm := he.sy.ok ok
  have hc := okm.1
  have h14 := ok.2.1
  have hcp := okm.2.2.1
  have h100 := ok.2.2.2.1
  refine s_Mt_of rfl (by decide) (by exact Nat.le_of_ble_eq_true rfl) ?_
  refine g_aload_n dX9_saveSnapshot_0 rfl (by rfl) ?_
  refine g_iconst 0 dX9_saveSnapshot_1 (by rfl) ?_
  refine g_putf' dX9_saveSnapshot_2 pX9_59 (by exact hm) (by omega) (by exact Nat.le_of_ble_eq_true rfl) (by rfl) (by rfl) (fun h31 e31 => ?_)
  first | have hm_31 := s_up_off e31 (by omega) hm | have hm_31 := s_up_at e31
  first | have hw_31 := s_up_off e31 (by omega) hw | have hw_31 := s_up_at e31
  first | have hsn_31 := s_up_off e31 (by omega) hsn | have hsn_31 := s_up_at e31
  have hM := hM.th e31
  have qoff : s_off _ h31 m (m + 1) := s_off.rf.up e31 (by omega)
  have hT := hT.off qoff (by omega)
  have hP := hP.q (qoff.wide (a' := m) (b' := m + 2) (by omega) (by omega)).l2 hM hT
  have hoff := hoff.trans (qoff.wide (a' := m) (b' := m + 21) (by omega) (by omega))
  have hm := hM.1
  have hw := hM.2
  refine g_aload_n dX9_saveSnapshot_5 rfl (by rfl) ?_
  refine g_getf dX9_saveSnapshot_6 fX9_9 (by exact hm) (by omega) (by rfl) ?_
  refine g_aload_n dX9_saveSnapshot_9 rfl (by rfl) ?_
  refine g_getf dX9_saveSnapshot_10 fX9_18 (by exact hm) (by omega) (by rfl) ?_
  have hsn := hP.2.2.1
  refine g_callS_p (c_X9_copy hw hsn (by omega) (by omega) (by omega)) dX9_saveSnapshot_13 (mX9_copy) rfl lX9_65 sX9_copy (by decide) rfl rfl (Nat.le_of_ble_eq_true rfl) (fun v9 h9 z9 => ?_)
  obtain ⟨rfl, ⟨g2, hg2, hgw2⟩, qoff⟩ := z9
  have hP := hP.sc qoff hg2
  have hM := hP.1
  have hT := hP.2.2.2.2.2.2.2
  have hoff := hoff.trans (qoff.wide (a' := m) (b' := m + 21) (by omega) (by omega))
  have hm := hM.1
  have hw := hM.2
  refine g_aload_n dX9_saveSnapshot_16 rfl (by rfl) ?_
  refine g_iconst 1 dX9_saveSnapshot_17 (by rfl) ?_
  refine g_putf' dX9_saveSnapshot_18 pX9_158 (by exact hm) (by omega) (by exact Nat.le_of_ble_eq_true rfl) (by rfl) (by rfl) (fun h32 e32 => ?_)
  first | have hm_32 := s_up_off e32 (by omega) hm | have hm_32 := s_up_at e32
  first | have hw_32 := s_up_off e32 (by omega) hw | have hw_32 := s_up_at e32
  have qoff : s_off _ h32 m (m + 1) := s_off.rf.up e32 (by omega)
  have hP := hP.fl (I1 := upd (upd I 0 0) 5 1) qoff hm_32
  have hM := hP.1
  have hT := hP.2.2.2.2.2.2.2
  have hoff := hoff.trans (qoff.wide (a' := m) (b' := m + 21) (by omega) (by omega))
  have hm := hM.1
  have hw := hM.2
  refine g_aload_n dX9_saveSnapshot_21 rfl (by rfl) ?_
  refine g_getf dX9_saveSnapshot_22 fX9_9 (by exact hm) (by omega) (by rfl) ?_
  refine g_iconst 1 dX9_saveSnapshot_25 (by rfl) ?_
  refine g_iald dX9_saveSnapshot_26 (by exact hw) (by omega) (show (1 : Int32) = nI 1 from rfl) (by decide) (by omega) ?_
  refine g_ireturn dX9_saveSnapshot_27 rfl ?_
  have hr2 : m_r2 (upd (upd I 0 0) 5 1) g2 (π.1, d_cpy π.1 π.2.1, 1, π.2.2.2) := ⟨rfl, Or.inr ⟨rfl, cnt, cp, (d_eq.cpy h14 π.1 π.2.1).sy.ok ok, ((m_D_61 hgw2 h14).tr he).tr (d_eq.cpy h14 π.1 π.2.1).sy⟩⟩
  exact ⟨rfl, congrArg (fun x => some (Value.int x)) (he.1 0 (by omega)), ⟨_, _, _, _, _, _, hP, rfl, hr1, hr2, hrr.2⟩, hoff⟩

theorem c_M_restoreSnapshot {h : s_H} {n m : Nat} {π : s_Pl} {t : Int32} (hR : m_R h m π t) (hn : m + 21 ≤ n) : s_Mt TX9_restoreSnapshot 0 0 [.ref m] h n (s_rp n (fun v9 h1 => ((¬ π.2.2.1 = 0 ∧ v9 = some (.int (π.2.1.2 0)) ∧ m_R h1 m (d_cpy π.2.1 π.1, π.2.1, π.2.2.1, π.2.2.2.1, 0, π.2.2.2.2.2) 0) ∨ (π.2.2.1 = 0 ∧ (∃ z, v9 = some (.int z)) ∧ m_R h1 m π 1)) ∧ s_off h h1 m (m + 21)) s_no) := by
  obtain ⟨I, w, sn, P, tx, rp, hP, -, hr1, hrr⟩ := hR
  have hM := hP.1
  have hT := hP.2.2.2.2.2.2.2
  have hm := hM.1
  have hw := hM.2
  have hoff : s_off h h m (m + 21) := s_off.rf
  refine s_Mt_of rfl (by decide) (by exact Nat.le_of_ble_eq_true rfl) ?_
  refine g_aload_n dX9_restoreSnapshot_0 rfl (by rfl) ?_
  refine g_iconst 0 dX9_restoreSnapshot_1 (by rfl) ?_
  refine g_putf' dX9_restoreSnapshot_2 pX9_59 (by exact hm) (by omega) (by exact Nat.le_of_ble_eq_true rfl) (by rfl) (by rfl) (fun h31 e31 => ?_)
  first | have hm_31 := s_up_off e31 (by omega) hm | have hm_31 := s_up_at e31
  first | have hw_31 := s_up_off e31 (by omega) hw | have hw_31 := s_up_at e31
  have hM := hM.th e31
  have qoff : s_off _ h31 m (m + 1) := s_off.rf.up e31 (by omega)
  have hT := hT.off qoff (by omega)
  have hP := hP.q (qoff.wide (a' := m) (b' := m + 2) (by omega) (by omega)).l2 hM hT
  have hoff := hoff.trans (qoff.wide (a' := m) (b' := m + 21) (by omega) (by omega))
  have hm := hM.1
  have hw := hM.2
  refine g_aload_n dX9_restoreSnapshot_5 rfl (by rfl) ?_
  refine g_aload_n dX9_restoreSnapshot_6 rfl (by rfl) ?_
  refine g_getf dX9_restoreSnapshot_7 fX9_158 (by exact hm) (by omega) (by rfl) ?_
  rw [show upd I 0 0 5 = π.2.2.1 from hrr.1.1]
  refine g_if_ne (tgt := 17) dX9_restoreSnapshot_10 (by decide) (fun c_10 => ?_) (fun c_10 => ?_)
  · refine g_iconst 0 dX9_restoreSnapshot_17 (by rfl) ?_
    refine g_iconst 1 dX9_restoreSnapshot_18 (by rfl) ?_
    refine g_callV_p (c_X9_raise hM hn 0 1 (by decide)) dX9_restoreSnapshot_19 (mX9_raise) rfl lX9_145 iX9_raise vX9_raise (by decide) (by omega) (by exact hm) rfl rfl rfl rfl (Nat.le_of_ble_eq_true rfl) (fun v9 h9 z9 => ?_)
    obtain ⟨rfl, hM, qoff⟩ := z9
    have hT := hT.off qoff (by omega)
    have hP := hP.q (qoff.wide (a' := m) (b' := m + 2) (by omega) (by omega)).l2 hM hT
    have hoff := hoff.trans (qoff.wide (a' := m) (b' := m + 21) (by omega) (by omega))
    have hm := hM.1
    have hw := hM.2
    refine g_if_eq (tgt := 27) dX9_restoreSnapshot_22 (by decide) (fun _ => ?_) (fun c_22 => absurd rfl c_22)
    refine g_aload_n dX9_restoreSnapshot_27 rfl (by rfl) ?_
    refine g_getf dX9_restoreSnapshot_28 fX9_18 (by exact hm) (by omega) (by rfl) ?_
    refine g_aload_n dX9_restoreSnapshot_31 rfl (by rfl) ?_
    refine g_getf dX9_restoreSnapshot_32 fX9_9 (by exact hm) (by omega) (by rfl) ?_
    have hsn := hP.2.2.1
    refine g_callS_p (c_X9_copy hsn hw (by omega) (by omega) (by omega)) dX9_restoreSnapshot_35 (mX9_copy) rfl lX9_65 sX9_copy (by decide) rfl rfl (Nat.le_of_ble_eq_true rfl) (fun v9 h9 z9 => ?_)
    obtain ⟨rfl, ⟨g2, hg2, hgw2⟩, qoff⟩ := z9
    have hP := hP.wc qoff hg2
    have hM := hP.1
    have hT := hP.2.2.2.2.2.2.2
    have hoff := hoff.trans (qoff.wide (a' := m) (b' := m + 21) (by omega) (by omega))
    have hm := hM.1
    have hw := hM.2
    refine g_aload_n dX9_restoreSnapshot_38 rfl (by rfl) ?_
    refine g_iconst 0 dX9_restoreSnapshot_39 (by rfl) ?_
    refine g_putf' dX9_restoreSnapshot_40 pX9_62 (by exact hm) (by omega) (by exact Nat.le_of_ble_eq_true rfl) (by rfl) (by rfl) (fun h31 e31 => ?_)
    first | have hm_31 := s_up_off e31 (by omega) hm | have hm_31 := s_up_at e31
    first | have hw_31 := s_up_off e31 (by omega) hw | have hw_31 := s_up_at e31
    have qoff : s_off _ h31 m (m + 1) := s_off.rf.up e31 (by omega)
    have hP := hP.fl (I1 := upd (upd I 0 0) 3 0) qoff hm_31
    have hM := hP.1
    have hT := hP.2.2.2.2.2.2.2
    have hoff := hoff.trans (qoff.wide (a' := m) (b' := m + 21) (by omega) (by omega))
    have hm := hM.1
    have hw := hM.2
    refine g_aload_n dX9_restoreSnapshot_43 rfl (by rfl) ?_
    refine g_getf dX9_restoreSnapshot_44 fX9_9 (by exact hm) (by omega) (by rfl) ?_
    refine g_iconst 1 dX9_restoreSnapshot_47 (by rfl) ?_
    refine g_iald dX9_restoreSnapshot_48 (by exact hw) (by omega) (show (1 : Int32) = nI 1 from rfl) (by decide) (by omega) ?_
    refine g_ireturn dX9_restoreSnapshot_49 rfl ?_
    obtain ⟨hs1, c9, p9, o9, e9⟩ := hrr.1.2.resolve_left c_10
    have hr9 : m_r1 g2 (d_cpy π.2.1 π.1, π.2.1, π.2.2.1, π.2.2.2.1, 0, π.2.2.2.2.2) := ⟨c9, p9, (d_eq.cpy o9.2.1 π.2.1 π.1).sy.ok o9, ((m_D_61 hgw2 o9.2.1).tr e9).tr (d_eq.cpy o9.2.1 π.2.1 π.1).sy⟩
    exact ⟨rfl, Or.inl ⟨c_10, congrArg (fun x => some (Value.int x)) ((hgw2 1 (by omega)).trans (e9.1 0 (by omega))), ⟨_, _, _, _, _, _, hP, rfl, hr9, hrr.1, ⟨Nat.zero_le _, rfl, fun i hi => absurd hi (Nat.not_lt_zero i)⟩, hrr.2.2⟩⟩, hoff⟩
  · refine g_iconst 1 dX9_restoreSnapshot_13 (by rfl) ?_
    refine g_goto (tgt := 18) dX9_restoreSnapshot_14 (by decide) ?_
    refine g_iconst 1 dX9_restoreSnapshot_18 (by rfl) ?_
    refine g_callV_p (c_X9_raise hM hn 1 1 (by decide)) dX9_restoreSnapshot_19 (mX9_raise) rfl lX9_145 iX9_raise vX9_raise (by decide) (by omega) (by exact hm) rfl rfl rfl rfl (Nat.le_of_ble_eq_true rfl) (fun v9 h9 z9 => ?_)
    obtain ⟨rfl, hM, qoff⟩ := z9
    have hT := hT.off qoff (by omega)
    have hP := hP.q (qoff.wide (a' := m) (b' := m + 2) (by omega) (by omega)).l2 hM hT
    have hoff := hoff.trans (qoff.wide (a' := m) (b' := m + 21) (by omega) (by omega))
    have hm := hM.1
    have hw := hM.2
    refine g_if_eq (tgt := 27) dX9_restoreSnapshot_22 (by decide) (fun c_22 => absurd c_22 (by decide)) (fun _ => ?_)
    refine g_iconst 0 dX9_restoreSnapshot_25 (by rfl) ?_
    refine g_ireturn dX9_restoreSnapshot_26 rfl ?_
    exact ⟨rfl, Or.inr ⟨c_10, ⟨_, rfl⟩, ⟨_, _, _, _, _, _, hP, rfl, hr1, hrr⟩⟩, hoff⟩

theorem c_M_truncateInput {h : s_H} {n m : Nat} {π : s_Pl} {t : Int32} (hR : m_R h m π t) (hn : m + 21 ≤ n) (x : Int32) : s_Mt TX9_truncateInput 0 0 [.ref m, .int x] h n (s_rp n (fun v9 h1 => ((¬ (x < 0 ∨ nI π.2.2.2.2.2.2.1 < x) ∧ v9 = some (.int x) ∧ m_R h1 m (π.1, π.2.1, π.2.2.1, π.2.2.2.1, π.2.2.2.2.1, π.2.2.2.2.2.1, x.toNatClampNeg, π.2.2.2.2.2.2.2) 0) ∨ (¬ ¬ (x < 0 ∨ nI π.2.2.2.2.2.2.1 < x) ∧ (∃ z, v9 = some (.int z)) ∧ m_R h1 m π 1)) ∧ s_off h h1 m (m + 21)) s_no) := by
  obtain ⟨I, w, sn, P, tx, rp, hP, -, hr1, hrr⟩ := hR
  have hM := hP.1
  have hT := hP.2.2.2.2.2.2.2
  have hm := hM.1
  have hw := hM.2
  have hoff : s_off h h m (m + 21) := s_off.rf
  refine s_Mt_of rfl (by decide) (by exact Nat.le_of_ble_eq_true rfl) ?_
  refine g_aload_n dX9_truncateInput_0 rfl (by rfl) ?_
  refine g_iconst 0 dX9_truncateInput_1 (by rfl) ?_
  refine g_putf' dX9_truncateInput_2 pX9_59 (by exact hm) (by omega) (by exact Nat.le_of_ble_eq_true rfl) (by rfl) (by rfl) (fun h31 e31 => ?_)
  first | have hm_31 := s_up_off e31 (by omega) hm | have hm_31 := s_up_at e31
  first | have hw_31 := s_up_off e31 (by omega) hw | have hw_31 := s_up_at e31
  have hM := hM.th e31
  have qoff : s_off _ h31 m (m + 1) := s_off.rf.up e31 (by omega)
  have hT := hT.off qoff (by omega)
  have hP := hP.q (qoff.wide (a' := m) (b' := m + 2) (by omega) (by omega)).l2 hM hT
  have hoff := hoff.trans (qoff.wide (a' := m) (b' := m + 21) (by omega) (by omega))
  have hm := hM.1
  have hw := hM.2
  refine g_aload_n dX9_truncateInput_5 rfl (by rfl) ?_
  refine g_iload_n dX9_truncateInput_6 rfl (by rfl) ?_
  refine g_iconst 0 dX9_truncateInput_7 (by rfl) ?_
  refine g_aload_n dX9_truncateInput_8 rfl (by rfl) ?_
  refine g_getf dX9_truncateInput_9 fX9_162 (by exact hm) (by omega) (by rfl) ?_
  rw [show upd I 0 0 9 = nI π.2.2.2.2.2.2.1 from hrr.2.2.1.2.1]
  refine g_iconst 1 dX9_truncateInput_12 (by rfl) ?_
  refine g_callV_p (c_X9_outside hM hn x 0 (nI π.2.2.2.2.2.2.1) 1) dX9_truncateInput_13 (mX9_outside) rfl lX9_69 iX9_outside vX9_outside (by decide) (by omega) (by exact hm) rfl rfl rfl rfl (Nat.le_of_ble_eq_true rfl) (fun v9 h9 z9 => ?_)
  obtain ⟨rfl, hM, qoff⟩ := z9
  have hT := hT.off qoff (by omega)
  have hP := hP.q (qoff.wide (a' := m) (b' := m + 2) (by omega) (by omega)).l2 hM hT
  have hoff := hoff.trans (qoff.wide (a' := m) (b' := m + 21) (by omega) (by omega))
  refine g_if_eq (tgt := 21) dX9_truncateInput_16 (by decide) (fun c_16 => ?_) (fun c_16 => ?_)
  · have hin : ¬ (x < 0 ∨ (nI π.2.2.2.2.2.2.1) < x) := fun z => by rw [if_pos z] at c_16; exact absurd c_16 (by decide)
    rw [if_neg hin] at hM hP
    have hm := hM.1
    have hw := hM.2
    obtain ⟨c, hc9, hxc⟩ := nI_of (fun z => hin (Or.inl z))
    have hcl : c ≤ π.2.2.2.2.2.2.1 := Nat.le_of_not_lt fun z => hin (Or.inr (by rw [hxc]; exact nI_lt z hc9))
    have h500 := hrr.2.2.1.1
    refine g_aload_n dX9_truncateInput_21 rfl (by rfl) ?_
    refine g_iload_n dX9_truncateInput_22 rfl (by rfl) ?_
    refine g_putf' dX9_truncateInput_23 pX9_162 (by exact hm) (by omega) (by exact Nat.le_of_ble_eq_true rfl) (by rfl) (by rfl) (fun h32 e32 => ?_)
    first | have hm_32 := s_up_off e32 (by omega) hm | have hm_32 := s_up_at e32
    first | have hw_32 := s_up_off e32 (by omega) hw | have hw_32 := s_up_at e32
    have qoff : s_off _ h32 m (m + 1) := s_off.rf.up e32 (by omega)
    have hP := hP.fl (I1 := upd (upd I 0 0) 9 x) qoff hm_32
    have hM := hP.1
    have hT := hP.2.2.2.2.2.2.2
    have hoff := hoff.trans (qoff.wide (a' := m) (b' := m + 21) (by omega) (by omega))
    have hm := hM.1
    have hw := hM.2
    refine g_aload_n dX9_truncateInput_26 rfl (by rfl) ?_
    refine g_getf dX9_truncateInput_27 fX9_162 (by exact hm) (by omega) (by rfl) ?_
    refine g_ireturn dX9_truncateInput_30 rfl ?_
    first | (refine ⟨rfl, Or.inl ⟨hin, rfl, ⟨_, _, _, _, _, _, hP, rfl, hr1, hrr.1, hrr.2.1, ⟨?_, ?_, ?_⟩, hrr.2.2.2⟩⟩, hoff⟩; (show x.toNatClampNeg ≤ 500; rw [hxc, nI_clamp hc9]; omega); (show x = nI x.toNatClampNeg; rw [hxc, nI_clamp hc9]); (intro i hi; exact hrr.2.2.1.2.2 i (by change i < x.toNatClampNeg at hi; rw [hxc, nI_clamp hc9] at hi; omega))) | exact ⟨rfl, Or.inr ⟨hin, ⟨_, rfl⟩, ⟨_, _, _, _, _, _, hP, rfl, hr1, hrr⟩⟩, hoff⟩
  · have hno : x < 0 ∨ (nI π.2.2.2.2.2.2.1) < x := Classical.byContradiction fun z => c_16 (by rw [if_neg z])
    rw [if_pos hno] at hM hP
    have hin : ¬ ¬ (x < 0 ∨ (nI π.2.2.2.2.2.2.1) < x) := fun z => z hno
    have hm := hM.1
    have hw := hM.2
    refine g_iconst 0 dX9_truncateInput_19 (by rfl) ?_
    refine g_ireturn dX9_truncateInput_20 rfl ?_
    first | (refine ⟨rfl, Or.inl ⟨hin, rfl, ⟨_, _, _, _, _, _, hP, rfl, hr1, hrr.1, hrr.2.1, ⟨?_, ?_, ?_⟩, hrr.2.2.2⟩⟩, hoff⟩; (show x.toNatClampNeg ≤ 500; rw [hxc, nI_clamp hc9]; omega); (show x = nI x.toNatClampNeg; rw [hxc, nI_clamp hc9]); (intro i hi; exact hrr.2.2.1.2.2 i (by change i < x.toNatClampNeg at hi; rw [hxc, nI_clamp hc9] at hi; omega))) | exact ⟨rfl, Or.inr ⟨hin, ⟨_, rfl⟩, ⟨_, _, _, _, _, _, hP, rfl, hr1, hrr⟩⟩, hoff⟩
