/-! THE MODEL: what it tells -/

theorem c_M_undoCount {h : s_H} {n m : Nat} {π : s_Pl} {t : Int32} (hR : m_R h m π t) (hn : m + 21 ≤ n) : s_Mt TX9_undoCount 0 0 [.ref m] h n (s_rp n (fun v9 h1 => v9 = some (.int (nI π.2.2.2.2.1)) ∧ m_R h1 m π 0 ∧ s_off h h1 m (m + 21)) s_no) := by
  obtain ⟨I, w, sn, P, tx, rp, hP, -, hr1, hrr⟩ := hR
  have hM := hP.1
  have hT := hP.2.2.2.2.2.2.2
  have hm := hM.1
  have hw := hM.2
  have hoff : s_off2 h h m (m + 2) (m + 18) (m + 21) := fun _ _ _ => rfl
  refine s_Mt_of rfl (by decide) (by exact Nat.le_of_ble_eq_true rfl) ?_
  refine g_aload_n dX9_undoCount_0 rfl (by rfl) ?_
  refine g_iconst 0 dX9_undoCount_1 (by rfl) ?_
  refine g_putf' dX9_undoCount_2 pX9_59 (by exact hm) (by omega) (by exact Nat.le_of_ble_eq_true rfl) (by rfl) (by rfl) (fun h31 e31 => ?_)
  first | have hm_31 := s_up_off e31 (by omega) hm | have hm_31 := s_up_at e31
  first | have hw_31 := s_up_off e31 (by omega) hw | have hw_31 := s_up_at e31
  have hM := hM.th e31
  have qoff : s_off h h31 m (m + 1) := s_off.rf.up e31 (by omega)
  have hT := hT.off qoff (by omega)
  have hoff : s_off2 h h31 m (m + 2) (m + 18) (m + 21) := (qoff.wide (a' := m) (b' := m + 2) (by omega) (by omega)).l2
  have hm := hM.1
  have hw := hM.2
  refine g_aload_n dX9_undoCount_5 rfl (by rfl) ?_
  refine g_getf dX9_undoCount_6 fX9_62 (by exact hm) (by omega) (by rfl) ?_
  refine g_ireturn dX9_undoCount_9 rfl ?_
  exact ⟨rfl, congrArg (fun x => some (Value.int x)) hrr.2.1.2.1, (m_R_q hP hr1 hrr hM hT hoff), (s_off2.one hoff (by omega) (by omega) (by omega) (by omega))⟩

theorem c_M_inputLength {h : s_H} {n m : Nat} {π : s_Pl} {t : Int32} (hR : m_R h m π t) (hn : m + 21 ≤ n) : s_Mt TX9_inputLength 0 0 [.ref m] h n (s_rp n (fun v9 h1 => v9 = some (.int (nI π.2.2.2.2.2.2.1)) ∧ m_R h1 m π 0 ∧ s_off h h1 m (m + 21)) s_no) := by
  obtain ⟨I, w, sn, P, tx, rp, hP, -, hr1, hrr⟩ := hR
  have hM := hP.1
  have hT := hP.2.2.2.2.2.2.2
  have hm := hM.1
  have hw := hM.2
  have hoff : s_off2 h h m (m + 2) (m + 18) (m + 21) := fun _ _ _ => rfl
  refine s_Mt_of rfl (by decide) (by exact Nat.le_of_ble_eq_true rfl) ?_
  refine g_aload_n dX9_inputLength_0 rfl (by rfl) ?_
  refine g_iconst 0 dX9_inputLength_1 (by rfl) ?_
  refine g_putf' dX9_inputLength_2 pX9_59 (by exact hm) (by omega) (by exact Nat.le_of_ble_eq_true rfl) (by rfl) (by rfl) (fun h31 e31 => ?_)
  first | have hm_31 := s_up_off e31 (by omega) hm | have hm_31 := s_up_at e31
  first | have hw_31 := s_up_off e31 (by omega) hw | have hw_31 := s_up_at e31
  have hM := hM.th e31
  have qoff : s_off h h31 m (m + 1) := s_off.rf.up e31 (by omega)
  have hT := hT.off qoff (by omega)
  have hoff : s_off2 h h31 m (m + 2) (m + 18) (m + 21) := (qoff.wide (a' := m) (b' := m + 2) (by omega) (by omega)).l2
  have hm := hM.1
  have hw := hM.2
  refine g_aload_n dX9_inputLength_5 rfl (by rfl) ?_
  refine g_getf dX9_inputLength_6 fX9_162 (by exact hm) (by omega) (by rfl) ?_
  refine g_ireturn dX9_inputLength_9 rfl ?_
  exact ⟨rfl, congrArg (fun x => some (Value.int x)) hrr.2.2.1.2.1, (m_R_q hP hr1 hrr hM hT hoff), (s_off2.one hoff (by omega) (by omega) (by omega) (by omega))⟩

theorem c_M_scriptErrorKind {h : s_H} {n m : Nat} {π : s_Pl} {t : Int32} (hR : m_R h m π t) (hn : m + 21 ≤ n) : s_Mt TX9_scriptErrorKind 0 0 [.ref m] h n (s_rp n (fun v9 h1 => v9 = some (.int π.2.2.2.2.2.2.2.1) ∧ m_R h1 m π 0 ∧ s_off h h1 m (m + 21)) s_no) := by
  obtain ⟨I, w, sn, P, tx, rp, hP, -, hr1, hrr⟩ := hR
  have hM := hP.1
  have hT := hP.2.2.2.2.2.2.2
  have hm := hM.1
  have hw := hM.2
  have hoff : s_off2 h h m (m + 2) (m + 18) (m + 21) := fun _ _ _ => rfl
  refine s_Mt_of rfl (by decide) (by exact Nat.le_of_ble_eq_true rfl) ?_
  refine g_aload_n dX9_scriptErrorKind_0 rfl (by rfl) ?_
  refine g_iconst 0 dX9_scriptErrorKind_1 (by rfl) ?_
  refine g_putf' dX9_scriptErrorKind_2 pX9_59 (by exact hm) (by omega) (by exact Nat.le_of_ble_eq_true rfl) (by rfl) (by rfl) (fun h31 e31 => ?_)
  first | have hm_31 := s_up_off e31 (by omega) hm | have hm_31 := s_up_at e31
  first | have hw_31 := s_up_off e31 (by omega) hw | have hw_31 := s_up_at e31
  have hM := hM.th e31
  have qoff : s_off h h31 m (m + 1) := s_off.rf.up e31 (by omega)
  have hT := hT.off qoff (by omega)
  have hoff : s_off2 h h31 m (m + 2) (m + 18) (m + 21) := (qoff.wide (a' := m) (b' := m + 2) (by omega) (by omega)).l2
  have hm := hM.1
  have hw := hM.2
  refine g_aload_n dX9_scriptErrorKind_5 rfl (by rfl) ?_
  refine g_getf dX9_scriptErrorKind_6 fX9_233 (by exact hm) (by omega) (by rfl) ?_
  refine g_ireturn dX9_scriptErrorKind_9 rfl ?_
  exact ⟨rfl, congrArg (fun x => some (Value.int x)) hrr.2.2.2.1.1, (m_R_q hP hr1 hrr hM hT hoff), (s_off2.one hoff (by omega) (by omega) (by omega) (by omega))⟩

theorem c_M_scriptErrorOffset {h : s_H} {n m : Nat} {π : s_Pl} {t : Int32} (hR : m_R h m π t) (hn : m + 21 ≤ n) : s_Mt TX9_scriptErrorOffset 0 0 [.ref m] h n (s_rp n (fun v9 h1 => v9 = some (.int π.2.2.2.2.2.2.2.2.1) ∧ m_R h1 m π 0 ∧ s_off h h1 m (m + 21)) s_no) := by
  obtain ⟨I, w, sn, P, tx, rp, hP, -, hr1, hrr⟩ := hR
  have hM := hP.1
  have hT := hP.2.2.2.2.2.2.2
  have hm := hM.1
  have hw := hM.2
  have hoff : s_off2 h h m (m + 2) (m + 18) (m + 21) := fun _ _ _ => rfl
  refine s_Mt_of rfl (by decide) (by exact Nat.le_of_ble_eq_true rfl) ?_
  refine g_aload_n dX9_scriptErrorOffset_0 rfl (by rfl) ?_
  refine g_iconst 0 dX9_scriptErrorOffset_1 (by rfl) ?_
  refine g_putf' dX9_scriptErrorOffset_2 pX9_59 (by exact hm) (by omega) (by exact Nat.le_of_ble_eq_true rfl) (by rfl) (by rfl) (fun h31 e31 => ?_)
  first | have hm_31 := s_up_off e31 (by omega) hm | have hm_31 := s_up_at e31
  first | have hw_31 := s_up_off e31 (by omega) hw | have hw_31 := s_up_at e31
  have hM := hM.th e31
  have qoff : s_off h h31 m (m + 1) := s_off.rf.up e31 (by omega)
  have hT := hT.off qoff (by omega)
  have hoff : s_off2 h h31 m (m + 2) (m + 18) (m + 21) := (qoff.wide (a' := m) (b' := m + 2) (by omega) (by omega)).l2
  have hm := hM.1
  have hw := hM.2
  refine g_aload_n dX9_scriptErrorOffset_5 rfl (by rfl) ?_
  refine g_getf dX9_scriptErrorOffset_6 fX9_43 (by exact hm) (by omega) (by rfl) ?_
  refine g_ireturn dX9_scriptErrorOffset_9 rfl ?_
  exact ⟨rfl, congrArg (fun x => some (Value.int x)) hrr.2.2.2.1.2, (m_R_q hP hr1 hrr hM hT hoff), (s_off2.one hoff (by omega) (by omega) (by omega) (by omega))⟩

theorem c_M_itemCount {h : s_H} {n m : Nat} {π : s_Pl} {t : Int32} (hR : m_R h m π t) (hn : m + 21 ≤ n) {cnt cp : Nat} (ok : d_ok π.1 cnt cp) : s_Mt TX9_itemCount 0 0 [.ref m] h n (s_rp n (fun v9 h1 => v9 = some (.int (π.1.2 0)) ∧ m_R h1 m π 0 ∧ s_off h h1 m (m + 21)) s_no) := by
  obtain ⟨I, w, sn, P, tx, rp, hP, -, hr1, hrr⟩ := hR
  have hM := hP.1
  have hT := hP.2.2.2.2.2.2.2
  have hm := hM.1
  have hw := hM.2
  have hoff : s_off2 h h m (m + 2) (m + 18) (m + 21) := fun _ _ _ => rfl
  have he : d_eq cnt (m_D w) π.1 := by
    obtain ⟨c9, p9, o9, e9⟩ := id hr1
    obtain rfl : c9 = cnt := o9.cn.symm.trans ok.cn
    exact e9
  have okm := he.sy.ok ok
  have hc := okm.1
  have h14 := ok.2.1
  have hcp := okm.2.2.1
  have h100 := ok.2.2.2.1
  refine s_Mt_of rfl (by decide) (by exact Nat.le_of_ble_eq_true rfl) ?_
  refine g_aload_n dX9_itemCount_0 rfl (by rfl) ?_
  refine g_iconst 0 dX9_itemCount_1 (by rfl) ?_
  refine g_putf' dX9_itemCount_2 pX9_59 (by exact hm) (by omega) (by exact Nat.le_of_ble_eq_true rfl) (by rfl) (by rfl) (fun h31 e31 => ?_)
  first | have hm_31 := s_up_off e31 (by omega) hm | have hm_31 := s_up_at e31
  first | have hw_31 := s_up_off e31 (by omega) hw | have hw_31 := s_up_at e31
  have hM := hM.th e31
  have qoff : s_off h h31 m (m + 1) := s_off.rf.up e31 (by omega)
  have hT := hT.off qoff (by omega)
  have hoff : s_off2 h h31 m (m + 2) (m + 18) (m + 21) := (qoff.wide (a' := m) (b' := m + 2) (by omega) (by omega)).l2
  have hm := hM.1
  have hw := hM.2
  refine g_aload_n dX9_itemCount_5 rfl (by rfl) ?_
  refine g_getf dX9_itemCount_6 fX9_9 (by exact hm) (by omega) (by rfl) ?_
  refine g_iconst 1 dX9_itemCount_9 (by rfl) ?_
  refine g_iald dX9_itemCount_10 (by exact hw) (by omega) (show (1 : Int32) = nI 1 from rfl) (by decide) (by omega) ?_
  refine g_ireturn dX9_itemCount_11 rfl ?_
  exact ⟨rfl, congrArg (fun x => some (Value.int x)) (he.1 0 (by omega)), (m_R_q hP hr1 hrr hM hT hoff), (s_off2.one hoff (by omega) (by omega) (by omega) (by omega))⟩

theorem c_M_capacity {h : s_H} {n m : Nat} {π : s_Pl} {t : Int32} (hR : m_R h m π t) (hn : m + 21 ≤ n) {cnt cp : Nat} (ok : d_ok π.1 cnt cp) : s_Mt TX9_capacity 0 0 [.ref m] h n (s_rp n (fun v9 h1 => v9 = some (.int (π.1.2 1)) ∧ m_R h1 m π 0 ∧ s_off h h1 m (m + 21)) s_no) := by
  obtain ⟨I, w, sn, P, tx, rp, hP, -, hr1, hrr⟩ := hR
  have hM := hP.1
  have hT := hP.2.2.2.2.2.2.2
  have hm := hM.1
  have hw := hM.2
  have hoff : s_off2 h h m (m + 2) (m + 18) (m + 21) := fun _ _ _ => rfl
  have he : d_eq cnt (m_D w) π.1 := by
    obtain ⟨c9, p9, o9, e9⟩ := id hr1
    obtain rfl : c9 = cnt := o9.cn.symm.trans ok.cn
    exact e9
  have okm := he.sy.ok ok
  have hc := okm.1
  have h14 := ok.2.1
  have hcp := okm.2.2.1
  have h100 := ok.2.2.2.1
  refine s_Mt_of rfl (by decide) (by exact Nat.le_of_ble_eq_true rfl) ?_
  refine g_aload_n dX9_capacity_0 rfl (by rfl) ?_
  refine g_iconst 0 dX9_capacity_1 (by rfl) ?_
  refine g_putf' dX9_capacity_2 pX9_59 (by exact hm) (by omega) (by exact Nat.le_of_ble_eq_true rfl) (by rfl) (by rfl) (fun h31 e31 => ?_)
  first | have hm_31 := s_up_off e31 (by omega) hm | have hm_31 := s_up_at e31
  first | have hw_31 := s_up_off e31 (by omega) hw | have hw_31 := s_up_at e31
  have hM := hM.th e31
  have qoff : s_off h h31 m (m + 1) := s_off.rf.up e31 (by omega)
  have hT := hT.off qoff (by omega)
  have hoff : s_off2 h h31 m (m + 2) (m + 18) (m + 21) := (qoff.wide (a' := m) (b' := m + 2) (by omega) (by omega)).l2
  have hm := hM.1
  have hw := hM.2
  refine g_aload_n dX9_capacity_5 rfl (by rfl) ?_
  refine g_getf dX9_capacity_6 fX9_9 (by exact hm) (by omega) (by rfl) ?_
  refine g_iconst 0 dX9_capacity_9 (by rfl) ?_
  refine g_iald dX9_capacity_10 (by exact hw) (by omega) (show (0 : Int32) = nI 0 from rfl) (by decide) (by omega) ?_
  refine g_ireturn dX9_capacity_11 rfl ?_
  exact ⟨rfl, congrArg (fun x => some (Value.int x)) (he.1 1 (by omega)), (m_R_q hP hr1 hrr hM hT hoff), (s_off2.one hoff (by omega) (by omega) (by omega) (by omega))⟩

theorem c_M_backupCount {h : s_H} {n m : Nat} {π : s_Pl} {t : Int32} (hR : m_R h m π t) (hn : m + 21 ≤ n) {cnt cp : Nat} (ok : d_ok π.1 cnt cp) : s_Mt TX9_backupCount 0 0 [.ref m] h n (s_rp n (fun v9 h1 => v9 = some (.int (π.1.2 2)) ∧ m_R h1 m π 0 ∧ s_off h h1 m (m + 21)) s_no) := by
  obtain ⟨I, w, sn, P, tx, rp, hP, -, hr1, hrr⟩ := hR
  have hM := hP.1
  have hT := hP.2.2.2.2.2.2.2
  have hm := hM.1
  have hw := hM.2
  have hoff : s_off2 h h m (m + 2) (m + 18) (m + 21) := fun _ _ _ => rfl
  have he : d_eq cnt (m_D w) π.1 := by
    obtain ⟨c9, p9, o9, e9⟩ := id hr1
    obtain rfl : c9 = cnt := o9.cn.symm.trans ok.cn
    exact e9
  have okm := he.sy.ok ok
  have hc := okm.1
  have h14 := ok.2.1
  have hcp := okm.2.2.1
  have h100 := ok.2.2.2.1
  refine s_Mt_of rfl (by decide) (by exact Nat.le_of_ble_eq_true rfl) ?_
  refine g_aload_n dX9_backupCount_0 rfl (by rfl) ?_
  refine g_iconst 0 dX9_backupCount_1 (by rfl) ?_
  refine g_putf' dX9_backupCount_2 pX9_59 (by exact hm) (by omega) (by exact Nat.le_of_ble_eq_true rfl) (by rfl) (by rfl) (fun h31 e31 => ?_)
  first | have hm_31 := s_up_off e31 (by omega) hm | have hm_31 := s_up_at e31
  first | have hw_31 := s_up_off e31 (by omega) hw | have hw_31 := s_up_at e31
  have hM := hM.th e31
  have qoff : s_off h h31 m (m + 1) := s_off.rf.up e31 (by omega)
  have hT := hT.off qoff (by omega)
  have hoff : s_off2 h h31 m (m + 2) (m + 18) (m + 21) := (qoff.wide (a' := m) (b' := m + 2) (by omega) (by omega)).l2
  have hm := hM.1
  have hw := hM.2
  refine g_aload_n dX9_backupCount_5 rfl (by rfl) ?_
  refine g_getf dX9_backupCount_6 fX9_9 (by exact hm) (by omega) (by rfl) ?_
  refine g_iconst 2 dX9_backupCount_9 (by rfl) ?_
  refine g_iald dX9_backupCount_10 (by exact hw) (by omega) (show (2 : Int32) = nI 2 from rfl) (by decide) (by omega) ?_
  refine g_ireturn dX9_backupCount_11 rfl ?_
  exact ⟨rfl, congrArg (fun x => some (Value.int x)) (he.1 2 (by omega)), (m_R_q hP hr1 hrr hM hT hoff), (s_off2.one hoff (by omega) (by omega) (by omega) (by omega))⟩

theorem c_M_backedUpSize {h : s_H} {n m : Nat} {π : s_Pl} {t : Int32} (hR : m_R h m π t) (hn : m + 21 ≤ n) {cnt cp : Nat} (ok : d_ok π.1 cnt cp) : s_Mt TX9_backedUpSize 0 0 [.ref m] h n (s_rp n (fun v9 h1 => v9 = some (.int (π.1.2 3)) ∧ m_R h1 m π 0 ∧ s_off h h1 m (m + 21)) s_no) := by
  obtain ⟨I, w, sn, P, tx, rp, hP, -, hr1, hrr⟩ := hR
  have hM := hP.1
  have hT := hP.2.2.2.2.2.2.2
  have hm := hM.1
  have hw := hM.2
  have hoff : s_off2 h h m (m + 2) (m + 18) (m + 21) := fun _ _ _ => rfl
  have he : d_eq cnt (m_D w) π.1 := by
    obtain ⟨c9, p9, o9, e9⟩ := id hr1
    obtain rfl : c9 = cnt := o9.cn.symm.trans ok.cn
    exact e9
  have okm := he.sy.ok ok
  have hc := okm.1
  have h14 := ok.2.1
  have hcp := okm.2.2.1
  have h100 := ok.2.2.2.1
  refine s_Mt_of rfl (by decide) (by exact Nat.le_of_ble_eq_true rfl) ?_
  refine g_aload_n dX9_backedUpSize_0 rfl (by rfl) ?_
  refine g_iconst 0 dX9_backedUpSize_1 (by rfl) ?_
  refine g_putf' dX9_backedUpSize_2 pX9_59 (by exact hm) (by omega) (by exact Nat.le_of_ble_eq_true rfl) (by rfl) (by rfl) (fun h31 e31 => ?_)
  first | have hm_31 := s_up_off e31 (by omega) hm | have hm_31 := s_up_at e31
  first | have hw_31 := s_up_off e31 (by omega) hw | have hw_31 := s_up_at e31
  have hM := hM.th e31
  have qoff : s_off h h31 m (m + 1) := s_off.rf.up e31 (by omega)
  have hT := hT.off qoff (by omega)
  have hoff : s_off2 h h31 m (m + 2) (m + 18) (m + 21) := (qoff.wide (a' := m) (b' := m + 2) (by omega) (by omega)).l2
  have hm := hM.1
  have hw := hM.2
  refine g_aload_n dX9_backedUpSize_5 rfl (by rfl) ?_
  refine g_getf dX9_backedUpSize_6 fX9_9 (by exact hm) (by omega) (by rfl) ?_
  refine g_iconst 3 dX9_backedUpSize_9 (by rfl) ?_
  refine g_iald dX9_backedUpSize_10 (by exact hw) (by omega) (show (3 : Int32) = nI 3 from rfl) (by decide) (by omega) ?_
  refine g_ireturn dX9_backedUpSize_11 rfl ?_
  exact ⟨rfl, congrArg (fun x => some (Value.int x)) (he.1 3 (by omega)), (m_R_q hP hr1 hrr hM hT hoff), (s_off2.one hoff (by omega) (by omega) (by omega) (by omega))⟩

theorem c_M_backedUpWeight {h : s_H} {n m : Nat} {π : s_Pl} {t : Int32} (hR : m_R h m π t) (hn : m + 21 ≤ n) {cnt cp : Nat} (ok : d_ok π.1 cnt cp) : s_Mt TX9_backedUpWeight 0 0 [.ref m] h n (s_rp n (fun v9 h1 => v9 = some (.int (π.1.2 4)) ∧ m_R h1 m π 0 ∧ s_off h h1 m (m + 21)) s_no) := by
  obtain ⟨I, w, sn, P, tx, rp, hP, -, hr1, hrr⟩ := hR
  have hM := hP.1
  have hT := hP.2.2.2.2.2.2.2
  have hm := hM.1
  have hw := hM.2
  have hoff : s_off2 h h m (m + 2) (m + 18) (m + 21) := fun _ _ _ => rfl
  have he : d_eq cnt (m_D w) π.1 := by
    obtain ⟨c9, p9, o9, e9⟩ := id hr1
    obtain rfl : c9 = cnt := o9.cn.symm.trans ok.cn
    exact e9
  have okm := he.sy.ok ok
  have hc := okm.1
  have h14 := ok.2.1
  have hcp := okm.2.2.1
  have h100 := ok.2.2.2.1
  refine s_Mt_of rfl (by decide) (by exact Nat.le_of_ble_eq_true rfl) ?_
  refine g_aload_n dX9_backedUpWeight_0 rfl (by rfl) ?_
  refine g_iconst 0 dX9_backedUpWeight_1 (by rfl) ?_
  refine g_putf' dX9_backedUpWeight_2 pX9_59 (by exact hm) (by omega) (by exact Nat.le_of_ble_eq_true rfl) (by rfl) (by rfl) (fun h31 e31 => ?_)
  first | have hm_31 := s_up_off e31 (by omega) hm | have hm_31 := s_up_at e31
  first | have hw_31 := s_up_off e31 (by omega) hw | have hw_31 := s_up_at e31
  have hM := hM.th e31
  have qoff : s_off h h31 m (m + 1) := s_off.rf.up e31 (by omega)
  have hT := hT.off qoff (by omega)
  have hoff : s_off2 h h31 m (m + 2) (m + 18) (m + 21) := (qoff.wide (a' := m) (b' := m + 2) (by omega) (by omega)).l2
  have hm := hM.1
  have hw := hM.2
  refine g_aload_n dX9_backedUpWeight_5 rfl (by rfl) ?_
  refine g_getf dX9_backedUpWeight_6 fX9_9 (by exact hm) (by omega) (by rfl) ?_
  refine g_iconst 4 dX9_backedUpWeight_9 (by rfl) ?_
  refine g_iald dX9_backedUpWeight_10 (by exact hw) (by omega) (show (4 : Int32) = nI 4 from rfl) (by decide) (by omega) ?_
  refine g_ireturn dX9_backedUpWeight_11 rfl ?_
  exact ⟨rfl, congrArg (fun x => some (Value.int x)) (he.1 4 (by omega)), (m_R_q hP hr1 hrr hM hT hoff), (s_off2.one hoff (by omega) (by omega) (by omega) (by omega))⟩

theorem c_M_pinnedItems {h : s_H} {n m : Nat} {π : s_Pl} {t : Int32} (hR : m_R h m π t) (hn : m + 21 ≤ n) {cnt cp : Nat} (ok : d_ok π.1 cnt cp) : s_Mt TX9_pinnedItems 0 0 [.ref m] h n (s_rp n (fun v9 h1 => v9 = some (.int (d_set π.1 1 cnt)) ∧ m_R h1 m π 0 ∧ s_off h h1 m (m + 21)) s_no) := by
  obtain ⟨I, w, sn, P, tx, rp, hP, -, hr1, hrr⟩ := hR
  have hM := hP.1
  have hT := hP.2.2.2.2.2.2.2
  have hm := hM.1
  have hw := hM.2
  have hoff : s_off2 h h m (m + 2) (m + 18) (m + 21) := fun _ _ _ => rfl
  have he : d_eq cnt (m_D w) π.1 := by
    obtain ⟨c9, p9, o9, e9⟩ := id hr1
    obtain rfl : c9 = cnt := o9.cn.symm.trans ok.cn
    exact e9
  have okm := he.sy.ok ok
  have hc := okm.1
  have h14 := ok.2.1
  have hcp := okm.2.2.1
  have h100 := ok.2.2.2.1
  refine s_Mt_of rfl (by decide) (by exact Nat.le_of_ble_eq_true rfl) ?_
  refine g_aload_n dX9_pinnedItems_0 rfl (by rfl) ?_
  refine g_iconst 0 dX9_pinnedItems_1 (by rfl) ?_
  refine g_putf' dX9_pinnedItems_2 pX9_59 (by exact hm) (by omega) (by exact Nat.le_of_ble_eq_true rfl) (by rfl) (by rfl) (fun h31 e31 => ?_)
  first | have hm_31 := s_up_off e31 (by omega) hm | have hm_31 := s_up_at e31
  first | have hw_31 := s_up_off e31 (by omega) hw | have hw_31 := s_up_at e31
  have hM := hM.th e31
  have qoff : s_off h h31 m (m + 1) := s_off.rf.up e31 (by omega)
  have hT := hT.off qoff (by omega)
  have hoff : s_off2 h h31 m (m + 2) (m + 18) (m + 21) := (qoff.wide (a' := m) (b' := m + 2) (by omega) (by omega)).l2
  have hm := hM.1
  have hw := hM.2
  refine g_aload_n dX9_pinnedItems_5 rfl (by rfl) ?_
  refine g_iconst 1 dX9_pinnedItems_6 (by rfl) ?_
  refine g_callV_e (c_X9_inState hM hn hc h14 1) dX9_pinnedItems_7 (mX9_inState) rfl lX9_93 iX9_inState vX9_inState (by decide) (by omega) (by exact hm) rfl rfl rfl rfl (Nat.le_of_ble_eq_true rfl) ?_
  refine g_ireturn dX9_pinnedItems_10 rfl ?_
  exact ⟨rfl, congrArg (fun x => some (Value.int x)) he.set', (m_R_q hP hr1 hrr hM hT hoff), (s_off2.one hoff (by omega) (by omega) (by omega) (by omega))⟩

theorem c_M_pinnedSize {h : s_H} {n m : Nat} {π : s_Pl} {t : Int32} (hR : m_R h m π t) (hn : m + 21 ≤ n) {cnt cp : Nat} (ok : d_ok π.1 cnt cp) : s_Mt TX9_pinnedSize 0 0 [.ref m] h n (s_rp n (fun v9 h1 => v9 = some (.int (d_tot (π.1.1 0) (d_set π.1 1 cnt) cnt)) ∧ m_R h1 m π 0 ∧ s_off h h1 m (m + 21)) s_no) := by
  obtain ⟨I, w, sn, P, tx, rp, hP, -, hr1, hrr⟩ := hR
  have hM := hP.1
  have hT := hP.2.2.2.2.2.2.2
  have hm := hM.1
  have hw := hM.2
  have hoff : s_off2 h h m (m + 2) (m + 18) (m + 21) := fun _ _ _ => rfl
  have he : d_eq cnt (m_D w) π.1 := by
    obtain ⟨c9, p9, o9, e9⟩ := id hr1
    obtain rfl : c9 = cnt := o9.cn.symm.trans ok.cn
    exact e9
  have okm := he.sy.ok ok
  have hc := okm.1
  have h14 := ok.2.1
  have hcp := okm.2.2.1
  have h100 := ok.2.2.2.1
  refine s_Mt_of rfl (by decide) (by exact Nat.le_of_ble_eq_true rfl) ?_
  refine g_aload_n dX9_pinnedSize_0 rfl (by rfl) ?_
  refine g_iconst 0 dX9_pinnedSize_1 (by rfl) ?_
  refine g_putf' dX9_pinnedSize_2 pX9_59 (by exact hm) (by omega) (by exact Nat.le_of_ble_eq_true rfl) (by rfl) (by rfl) (fun h31 e31 => ?_)
  first | have hm_31 := s_up_off e31 (by omega) hm | have hm_31 := s_up_at e31
  first | have hw_31 := s_up_off e31 (by omega) hw | have hw_31 := s_up_at e31
  have hM := hM.th e31
  have qoff : s_off h h31 m (m + 1) := s_off.rf.up e31 (by omega)
  have hT := hT.off qoff (by omega)
  have hoff : s_off2 h h31 m (m + 2) (m + 18) (m + 21) := (qoff.wide (a' := m) (b' := m + 2) (by omega) (by omega)).l2
  have hm := hM.1
  have hw := hM.2
  refine g_aload_n dX9_pinnedSize_5 rfl (by rfl) ?_
  refine g_aload_n dX9_pinnedSize_6 rfl (by rfl) ?_
  refine g_iconst 1 dX9_pinnedSize_7 (by rfl) ?_
  refine g_callV_e (c_X9_inState hM hn hc h14 1) dX9_pinnedSize_8 (mX9_inState) rfl lX9_93 iX9_inState vX9_inState (by decide) (by omega) (by exact hm) rfl rfl rfl rfl (Nat.le_of_ble_eq_true rfl) ?_
  refine g_callV_e (c_X9_sizeOfSet hM hn hc h14 _) dX9_pinnedSize_11 (mX9_sizeOfSet) rfl lX9_96 iX9_sizeOfSet vX9_sizeOfSet (by decide) (by omega) (by exact hm) rfl rfl rfl rfl (Nat.le_of_ble_eq_true rfl) ?_
  refine g_ireturn dX9_pinnedSize_14 rfl ?_
  exact ⟨rfl, by rw [he.set', he.tots], (m_R_q hP hr1 hrr hM hT hoff), (s_off2.one hoff (by omega) (by omega) (by omega) (by omega))⟩

theorem c_M_freeCount {h : s_H} {n m : Nat} {π : s_Pl} {t : Int32} (hR : m_R h m π t) (hn : m + 21 ≤ n) {cnt cp : Nat} (ok : d_ok π.1 cnt cp) : s_Mt TX9_freeCount 0 0 [.ref m] h n (s_rp n (fun v9 h1 => v9 = some (.int (s_bc (d_set π.1 0 cnt))) ∧ m_R h1 m π 0 ∧ s_off h h1 m (m + 21)) s_no) := by
  obtain ⟨I, w, sn, P, tx, rp, hP, -, hr1, hrr⟩ := hR
  have hM := hP.1
  have hT := hP.2.2.2.2.2.2.2
  have hm := hM.1
  have hw := hM.2
  have hoff : s_off2 h h m (m + 2) (m + 18) (m + 21) := fun _ _ _ => rfl
  have he : d_eq cnt (m_D w) π.1 := by
    obtain ⟨c9, p9, o9, e9⟩ := id hr1
    obtain rfl : c9 = cnt := o9.cn.symm.trans ok.cn
    exact e9
  have okm := he.sy.ok ok
  have hc := okm.1
  have h14 := ok.2.1
  have hcp := okm.2.2.1
  have h100 := ok.2.2.2.1
  refine s_Mt_of rfl (by decide) (by exact Nat.le_of_ble_eq_true rfl) ?_
  refine g_aload_n dX9_freeCount_0 rfl (by rfl) ?_
  refine g_iconst 0 dX9_freeCount_1 (by rfl) ?_
  refine g_putf' dX9_freeCount_2 pX9_59 (by exact hm) (by omega) (by exact Nat.le_of_ble_eq_true rfl) (by rfl) (by rfl) (fun h31 e31 => ?_)
  first | have hm_31 := s_up_off e31 (by omega) hm | have hm_31 := s_up_at e31
  first | have hw_31 := s_up_off e31 (by omega) hw | have hw_31 := s_up_at e31
  have hM := hM.th e31
  have qoff : s_off h h31 m (m + 1) := s_off.rf.up e31 (by omega)
  have hT := hT.off qoff (by omega)
  have hoff : s_off2 h h31 m (m + 2) (m + 18) (m + 21) := (qoff.wide (a' := m) (b' := m + 2) (by omega) (by omega)).l2
  have hm := hM.1
  have hw := hM.2
  refine g_aload_n dX9_freeCount_5 rfl (by rfl) ?_
  refine g_callV_e (c_X9_freeItems hM hn hc h14) dX9_freeCount_6 (mX9_freeItems) rfl lX9_286 iX9_freeItems vX9_freeItems (by decide) (by omega) (by exact hm) rfl rfl rfl rfl (Nat.le_of_ble_eq_true rfl) ?_
  refine g_ireturn dX9_freeCount_9 rfl ?_
  exact ⟨rfl, by rw [he.set'], (m_R_q hP hr1 hrr hM hT hoff), (s_off2.one hoff (by omega) (by omega) (by omega) (by omega))⟩

theorem c_M_hasPlan {h : s_H} {n m : Nat} {π : s_Pl} {t : Int32} (hR : m_R h m π t) (hn : m + 21 ≤ n) {cnt cp : Nat} (ok : d_ok π.1 cnt cp) : s_Mt TX9_hasPlan 0 0 [.ref m] h n (s_rp n (fun v9 h1 => v9 = some (.int (if d_room π.1 cnt < 0 then 0 else 1)) ∧ m_R h1 m π 0 ∧ s_off h h1 m (m + 21)) s_no) := by
  obtain ⟨I, w, sn, P, tx, rp, hP, -, hr1, hrr⟩ := hR
  have hM := hP.1
  have hT := hP.2.2.2.2.2.2.2
  have hm := hM.1
  have hw := hM.2
  have hoff : s_off2 h h m (m + 2) (m + 18) (m + 21) := fun _ _ _ => rfl
  have he : d_eq cnt (m_D w) π.1 := by
    obtain ⟨c9, p9, o9, e9⟩ := id hr1
    obtain rfl : c9 = cnt := o9.cn.symm.trans ok.cn
    exact e9
  have okm := he.sy.ok ok
  have hc := okm.1
  have h14 := ok.2.1
  have hcp := okm.2.2.1
  have h100 := ok.2.2.2.1
  refine s_Mt_of rfl (by decide) (by exact Nat.le_of_ble_eq_true rfl) ?_
  refine g_aload_n dX9_hasPlan_0 rfl (by rfl) ?_
  refine g_iconst 0 dX9_hasPlan_1 (by rfl) ?_
  refine g_putf' dX9_hasPlan_2 pX9_59 (by exact hm) (by omega) (by exact Nat.le_of_ble_eq_true rfl) (by rfl) (by rfl) (fun h31 e31 => ?_)
  first | have hm_31 := s_up_off e31 (by omega) hm | have hm_31 := s_up_at e31
  first | have hw_31 := s_up_off e31 (by omega) hw | have hw_31 := s_up_at e31
  have hM := hM.th e31
  have qoff : s_off h h31 m (m + 1) := s_off.rf.up e31 (by omega)
  have hT := hT.off qoff (by omega)
  have hoff : s_off2 h h31 m (m + 2) (m + 18) (m + 21) := (qoff.wide (a' := m) (b' := m + 2) (by omega) (by omega)).l2
  have hm := hM.1
  have hw := hM.2
  refine g_aload_n dX9_hasPlan_5 rfl (by rfl) ?_
  refine g_aload_n dX9_hasPlan_6 rfl (by rfl) ?_
  refine g_getf dX9_hasPlan_7 fX9_9 (by exact hm) (by omega) (by rfl) ?_
  refine g_iconst 0 dX9_hasPlan_10 (by rfl) ?_
  refine g_iald dX9_hasPlan_11 (by exact hw) (by omega) (show (0 : Int32) = nI 0 from rfl) (by decide) (by omega) ?_
  refine g_callV_e (c_X9_roomFor hM hn hc h14 (w 0)) dX9_hasPlan_12 (mX9_roomFor) rfl lX9_99 iX9_roomFor vX9_roomFor (by decide) (by omega) (by exact hm) rfl rfl rfl rfl (Nat.le_of_ble_eq_true rfl) ?_
  change s_G _ _ _ _ [.int (d_room (m_D w) cnt)] _ _ _ _
  rw [he.room]
  refine g_if_lt (tgt := 22) dX9_hasPlan_15 (by decide) (fun c_15 => ?_) (fun c_15 => ?_)
  · have hneg : d_room π.1 cnt < 0 := c_15
    refine g_iconst 0 dX9_hasPlan_22 (by rfl) ?_
    refine g_zreturn dX9_hasPlan_23 rfl (by decide) ?_
    exact ⟨rfl, by first | rw [if_pos hneg] | rw [if_neg hneg], (m_R_q hP hr1 hrr hM hT hoff), (s_off2.one hoff (by omega) (by omega) (by omega) (by omega))⟩
  · have hneg : ¬ d_room π.1 cnt < 0 := c_15
    refine g_iconst 1 dX9_hasPlan_18 (by rfl) ?_
    refine g_goto (tgt := 23) dX9_hasPlan_19 (by decide) ?_
    refine g_zreturn dX9_hasPlan_23 rfl (by decide) ?_
    exact ⟨rfl, by first | rw [if_pos hneg] | rw [if_neg hneg], (m_R_q hP hr1 hrr hM hT hoff), (s_off2.one hoff (by omega) (by omega) (by omega) (by omega))⟩

theorem c_M_densestItem {h : s_H} {n m : Nat} {π : s_Pl} {t : Int32} (hR : m_R h m π t) (hn : m + 21 ≤ n) {cnt cp : Nat} (ok : d_ok π.1 cnt cp) : s_Mt TX9_densestItem 0 0 [.ref m] h n (s_rp n (fun v9 h1 => v9 = some (.int (if (g_srt π.1 cnt).2 = 0 then -1 else nI ((g_srt π.1 cnt).1 0))) ∧ m_R h1 m π 0 ∧ s_off h h1 m (m + 21)) s_no) := by
  obtain ⟨I, w, sn, P, tx, rp, hP, -, hr1, hrr⟩ := hR
  have hM := hP.1
  have hT := hP.2.2.2.2.2.2.2
  have hm := hM.1
  have hw := hM.2
  have hoff : s_off2 h h m (m + 2) (m + 18) (m + 21) := fun _ _ _ => rfl
  have he : d_eq cnt (m_D w) π.1 := by
    obtain ⟨c9, p9, o9, e9⟩ := id hr1
    obtain rfl : c9 = cnt := o9.cn.symm.trans ok.cn
    exact e9
  have okm := he.sy.ok ok
  have hc := okm.1
  have h14 := ok.2.1
  have hcp := okm.2.2.1
  have h100 := ok.2.2.2.1
  refine s_Mt_of rfl (by decide) (by exact Nat.le_of_ble_eq_true rfl) ?_
  refine g_aload_n dX9_densestItem_0 rfl (by rfl) ?_
  refine g_iconst 0 dX9_densestItem_1 (by rfl) ?_
  refine g_putf' dX9_densestItem_2 pX9_59 (by exact hm) (by omega) (by exact Nat.le_of_ble_eq_true rfl) (by rfl) (by rfl) (fun h31 e31 => ?_)
  first | have hm_31 := s_up_off e31 (by omega) hm | have hm_31 := s_up_at e31
  first | have hw_31 := s_up_off e31 (by omega) hw | have hw_31 := s_up_at e31
  have hM := hM.th e31
  have qoff : s_off h h31 m (m + 1) := s_off.rf.up e31 (by omega)
  have hT := hT.off qoff (by omega)
  have hoff : s_off2 h h31 m (m + 2) (m + 18) (m + 21) := (qoff.wide (a' := m) (b' := m + 2) (by omega) (by omega)).l2
  have hm := hM.1
  have hw := hM.2
  refine g_aload_n dX9_densestItem_5 rfl (by rfl) ?_
  refine g_iconst (nI 0) dX9_densestItem_6 (by rfl) ?_
  refine g_callV_e (c_X9_densestWithout hM hn okm (M := 0) (by omega)) dX9_densestItem_7 (mX9_densestWithout) rfl lX9_120 iX9_densestWithout vX9_densestWithout (by decide) (by omega) (by exact hm) rfl rfl rfl rfl (Nat.le_of_ble_eq_true rfl) ?_
  rw [m_sel okm m_sn0 (Nat.zero_le _), show m_nx (m_D w) cnt 0 = (if (g_srt π.1 cnt).2 = 0 then -1 else nI ((g_srt π.1 cnt).1 0)) from by unfold m_nx; rw [he.srt cnt (Nat.le_refl _)]; by_cases e : (g_srt π.1 cnt).2 = 0 <;> simp [e, Nat.pos_of_ne_zero]]
  refine g_ireturn dX9_densestItem_10 rfl ?_
  exact ⟨rfl, rfl, (m_R_q hP hr1 hrr hM hT hoff), (s_off2.one hoff (by omega) (by omega) (by omega) (by omega))⟩

theorem c_M_bestWeight {h : s_H} {n m : Nat} {π : s_Pl} {t : Int32} (hR : m_R h m π t) (hn : m + 21 ≤ n) {cnt cp : Nat} (ok : d_ok π.1 cnt cp) : s_Mt TX9_bestWeight 0 0 [.ref m] h n (s_rp n (fun v9 h1 => v9 = some (.int (r_wt (u_best π.1 cnt cp))) ∧ m_R h1 m π 0 ∧ s_off h h1 m (m + 21)) s_no) := by
  obtain ⟨I, w, sn, P, tx, rp, hP, -, hr1, hrr⟩ := hR
  have hM := hP.1
  have hT := hP.2.2.2.2.2.2.2
  have hm := hM.1
  have hw := hM.2
  have hoff : s_off2 h h m (m + 2) (m + 18) (m + 21) := fun _ _ _ => rfl
  have he : d_eq cnt (m_D w) π.1 := by
    obtain ⟨c9, p9, o9, e9⟩ := id hr1
    obtain rfl : c9 = cnt := o9.cn.symm.trans ok.cn
    exact e9
  have okm := he.sy.ok ok
  have hc := okm.1
  have h14 := ok.2.1
  have hcp := okm.2.2.1
  have h100 := ok.2.2.2.1
  refine s_Mt_of rfl (by decide) (by exact Nat.le_of_ble_eq_true rfl) ?_
  refine g_aload_n dX9_bestWeight_0 rfl (by rfl) ?_
  refine g_iconst 0 dX9_bestWeight_1 (by rfl) ?_
  refine g_putf' dX9_bestWeight_2 pX9_59 (by exact hm) (by omega) (by exact Nat.le_of_ble_eq_true rfl) (by rfl) (by rfl) (fun h31 e31 => ?_)
  first | have hm_31 := s_up_off e31 (by omega) hm | have hm_31 := s_up_at e31
  first | have hw_31 := s_up_off e31 (by omega) hw | have hw_31 := s_up_at e31
  have hM := hM.th e31
  have qoff : s_off h h31 m (m + 1) := s_off.rf.up e31 (by omega)
  have hT := hT.off qoff (by omega)
  have hoff : s_off2 h h31 m (m + 2) (m + 18) (m + 21) := (qoff.wide (a' := m) (b' := m + 2) (by omega) (by omega)).l2
  have hm := hM.1
  have hw := hM.2
  refine g_aload_n dX9_bestWeight_5 rfl (by rfl) ?_
  refine g_callV_p (c_X9_bestWeightNow hM hn okm hT) dX9_bestWeight_6 (mX9_bestWeightNow) rfl lX9_280 iX9_bestWeightNow vX9_bestWeightNow (by decide) (by omega) (by exact hm) rfl rfl rfl rfl (Nat.le_of_ble_eq_true rfl) (fun v9 h9 z9 => ?_)
  obtain ⟨rfl, hT, qoff⟩ := z9
  have hM := hM.off qoff (by omega)
  have hm := hM.1
  have hw := hM.2
  have hoff := hoff.trans qoff.r2
  refine g_ireturn dX9_bestWeight_9 rfl ?_
  exact ⟨rfl, by rw [he.best], (m_R_q hP hr1 hrr hM hT hoff), (s_off2.one hoff (by omega) (by omega) (by omega) (by omega))⟩

theorem c_M_bestPlan {h : s_H} {n m : Nat} {π : s_Pl} {t : Int32} (hR : m_R h m π t) (hn : m + 21 ≤ n) {cnt cp : Nat} (ok : d_ok π.1 cnt cp) : s_Mt TX9_bestPlan 0 0 [.ref m] h n (s_rp n (fun v9 h1 => v9 = some (.int (r_st (u_best π.1 cnt cp))) ∧ m_R h1 m π 0 ∧ s_off h h1 m (m + 21)) s_no) := by
  obtain ⟨I, w, sn, P, tx, rp, hP, -, hr1, hrr⟩ := hR
  have hM := hP.1
  have hT := hP.2.2.2.2.2.2.2
  have hm := hM.1
  have hw := hM.2
  have hoff : s_off2 h h m (m + 2) (m + 18) (m + 21) := fun _ _ _ => rfl
  have he : d_eq cnt (m_D w) π.1 := by
    obtain ⟨c9, p9, o9, e9⟩ := id hr1
    obtain rfl : c9 = cnt := o9.cn.symm.trans ok.cn
    exact e9
  have okm := he.sy.ok ok
  have hc := okm.1
  have h14 := ok.2.1
  have hcp := okm.2.2.1
  have h100 := ok.2.2.2.1
  refine s_Mt_of rfl (by decide) (by exact Nat.le_of_ble_eq_true rfl) ?_
  refine g_aload_n dX9_bestPlan_0 rfl (by rfl) ?_
  refine g_iconst 0 dX9_bestPlan_1 (by rfl) ?_
  refine g_putf' dX9_bestPlan_2 pX9_59 (by exact hm) (by omega) (by exact Nat.le_of_ble_eq_true rfl) (by rfl) (by rfl) (fun h31 e31 => ?_)
  first | have hm_31 := s_up_off e31 (by omega) hm | have hm_31 := s_up_at e31
  first | have hw_31 := s_up_off e31 (by omega) hw | have hw_31 := s_up_at e31
  have hM := hM.th e31
  have qoff : s_off h h31 m (m + 1) := s_off.rf.up e31 (by omega)
  have hT := hT.off qoff (by omega)
  have hoff : s_off2 h h31 m (m + 2) (m + 18) (m + 21) := (qoff.wide (a' := m) (b' := m + 2) (by omega) (by omega)).l2
  have hm := hM.1
  have hw := hM.2
  refine g_aload_n dX9_bestPlan_5 rfl (by rfl) ?_
  refine g_callV_p (c_X9_best hM hn okm hT) dX9_bestPlan_6 (mX9_best) rfl lX9_123 iX9_best vX9_best (by decide) (by omega) (by exact hm) rfl rfl rfl rfl (Nat.le_of_ble_eq_true rfl) (fun v9 h9 z9 => ?_)
  obtain ⟨rfl, hT, qoff⟩ := z9
  have hM := hM.off qoff (by omega)
  have hm := hM.1
  have hw := hM.2
  have hoff := hoff.trans qoff.r2
  refine g_ireturn dX9_bestPlan_9 rfl ?_
  exact ⟨rfl, by rw [he.best], (m_R_q hP hr1 hrr hM hT hoff), (s_off2.one hoff (by omega) (by omega) (by omega) (by omega))⟩

theorem c_M_bestSize {h : s_H} {n m : Nat} {π : s_Pl} {t : Int32} (hR : m_R h m π t) (hn : m + 21 ≤ n) {cnt cp : Nat} (ok : d_ok π.1 cnt cp) : s_Mt TX9_bestSize 0 0 [.ref m] h n (s_rp n (fun v9 h1 => v9 = some (.int (r_sz (u_best π.1 cnt cp))) ∧ m_R h1 m π 0 ∧ s_off h h1 m (m + 21)) s_no) := by
  obtain ⟨I, w, sn, P, tx, rp, hP, -, hr1, hrr⟩ := hR
  have hM := hP.1
  have hT := hP.2.2.2.2.2.2.2
  have hm := hM.1
  have hw := hM.2
  have hoff : s_off2 h h m (m + 2) (m + 18) (m + 21) := fun _ _ _ => rfl
  have he : d_eq cnt (m_D w) π.1 := by
    obtain ⟨c9, p9, o9, e9⟩ := id hr1
    obtain rfl : c9 = cnt := o9.cn.symm.trans ok.cn
    exact e9
  have okm := he.sy.ok ok
  have hc := okm.1
  have h14 := ok.2.1
  have hcp := okm.2.2.1
  have h100 := ok.2.2.2.1
  refine s_Mt_of rfl (by decide) (by exact Nat.le_of_ble_eq_true rfl) ?_
  refine g_aload_n dX9_bestSize_0 rfl (by rfl) ?_
  refine g_iconst 0 dX9_bestSize_1 (by rfl) ?_
  refine g_putf' dX9_bestSize_2 pX9_59 (by exact hm) (by omega) (by exact Nat.le_of_ble_eq_true rfl) (by rfl) (by rfl) (fun h31 e31 => ?_)
  first | have hm_31 := s_up_off e31 (by omega) hm | have hm_31 := s_up_at e31
  first | have hw_31 := s_up_off e31 (by omega) hw | have hw_31 := s_up_at e31
  have hM := hM.th e31
  have qoff : s_off h h31 m (m + 1) := s_off.rf.up e31 (by omega)
  have hT := hT.off qoff (by omega)
  have hoff : s_off2 h h31 m (m + 2) (m + 18) (m + 21) := (qoff.wide (a' := m) (b' := m + 2) (by omega) (by omega)).l2
  have hm := hM.1
  have hw := hM.2
  refine g_aload_n dX9_bestSize_5 rfl (by rfl) ?_
  refine g_callV_p (c_X9_bestSizeNow hM hn okm hT) dX9_bestSize_6 (mX9_bestSizeNow) rfl lX9_283 iX9_bestSizeNow vX9_bestSizeNow (by decide) (by omega) (by exact hm) rfl rfl rfl rfl (Nat.le_of_ble_eq_true rfl) (fun v9 h9 z9 => ?_)
  obtain ⟨rfl, hT, qoff⟩ := z9
  have hM := hM.off qoff (by omega)
  have hm := hM.1
  have hw := hM.2
  have hoff := hoff.trans qoff.r2
  refine g_ireturn dX9_bestSize_9 rfl ?_
  exact ⟨rfl, by rw [he.best], (m_R_q hP hr1 hrr hM hT hoff), (s_off2.one hoff (by omega) (by omega) (by omega) (by omega))⟩

theorem c_M_slack {h : s_H} {n m : Nat} {π : s_Pl} {t : Int32} (hR : m_R h m π t) (hn : m + 21 ≤ n) {cnt cp : Nat} (ok : d_ok π.1 cnt cp) : s_Mt TX9_slack 0 0 [.ref m] h n (s_rp n (fun v9 h1 => v9 = some (.int (if u_best π.1 cnt cp = r_NP then -1 else nI cp - r_sz (u_best π.1 cnt cp))) ∧ m_R h1 m π 0 ∧ s_off h h1 m (m + 21)) s_no) := by
  obtain ⟨I, w, sn, P, tx, rp, hP, -, hr1, hrr⟩ := hR
  have hM := hP.1
  have hT := hP.2.2.2.2.2.2.2
  have hm := hM.1
  have hw := hM.2
  have hoff : s_off2 h h m (m + 2) (m + 18) (m + 21) := fun _ _ _ => rfl
  have he : d_eq cnt (m_D w) π.1 := by
    obtain ⟨c9, p9, o9, e9⟩ := id hr1
    obtain rfl : c9 = cnt := o9.cn.symm.trans ok.cn
    exact e9
  have okm := he.sy.ok ok
  have hc := okm.1
  have h14 := ok.2.1
  have hcp := okm.2.2.1
  have h100 := ok.2.2.2.1
  refine s_Mt_of rfl (by decide) (by exact Nat.le_of_ble_eq_true rfl) ?_
  refine g_aload_n dX9_slack_0 rfl (by rfl) ?_
  refine g_iconst 0 dX9_slack_1 (by rfl) ?_
  refine g_putf' dX9_slack_2 pX9_59 (by exact hm) (by omega) (by exact Nat.le_of_ble_eq_true rfl) (by rfl) (by rfl) (fun h31 e31 => ?_)
  first | have hm_31 := s_up_off e31 (by omega) hm | have hm_31 := s_up_at e31
  first | have hw_31 := s_up_off e31 (by omega) hw | have hw_31 := s_up_at e31
  have hM := hM.th e31
  have qoff : s_off h h31 m (m + 1) := s_off.rf.up e31 (by omega)
  have hT := hT.off qoff (by omega)
  have hoff : s_off2 h h31 m (m + 2) (m + 18) (m + 21) := (qoff.wide (a' := m) (b' := m + 2) (by omega) (by omega)).l2
  have hm := hM.1
  have hw := hM.2
  refine g_aload_n dX9_slack_5 rfl (by rfl) ?_
  refine g_callV_p (c_X9_best hM hn okm hT) dX9_slack_6 (mX9_best) rfl lX9_123 iX9_best vX9_best (by decide) (by omega) (by exact hm) rfl rfl rfl rfl (Nat.le_of_ble_eq_true rfl) (fun v9 h9 z9 => ?_)
  obtain ⟨rfl, hT, qoff⟩ := z9
  have hM := hM.off qoff (by omega)
  have hm := hM.1
  have hw := hM.2
  have hoff := hoff.trans qoff.r2
  refine g_iconst (-1) dX9_slack_9 (by rfl) ?_
  refine g_icmp_ne (tgt := 17) dX9_slack_10 (by decide) (fun c_10 => ?_) (fun c_10 => ?_)
  · have hnp : ¬ u_best (m_D w) cnt cp = r_NP := fun z => c_10 ((m_best okm h100).1.mpr z)
    refine g_aload_n dX9_slack_17 rfl (by rfl) ?_
    refine g_getf dX9_slack_18 fX9_9 (by exact hm) (by omega) (by rfl) ?_
    refine g_iconst 0 dX9_slack_21 (by rfl) ?_
    refine g_iald dX9_slack_22 (by exact hw) (by omega) (show (0 : Int32) = nI 0 from rfl) (by decide) (by omega) ?_
    rw [show w 0 = nI cp from hcp]
    refine g_aload_n dX9_slack_23 rfl (by rfl) ?_
    refine g_callV_p (c_X9_bestSizeNow hM hn okm hT) dX9_slack_24 (mX9_bestSizeNow) rfl lX9_283 iX9_bestSizeNow vX9_bestSizeNow (by decide) (by omega) (by exact hm) rfl rfl rfl rfl (Nat.le_of_ble_eq_true rfl) (fun v9 h9 z9 => ?_)
    obtain ⟨rfl, hT, qoff⟩ := z9
    have hM := hM.off qoff (by omega)
    have hm := hM.1
    have hw := hM.2
    have hoff := hoff.trans qoff.r2
    refine g_isub dX9_slack_27 ?_
    refine g_ireturn dX9_slack_28 rfl ?_
    exact ⟨rfl, by rw [he.best] at *; first | rw [if_pos hnp] | rw [if_neg hnp], (m_R_q hP hr1 hrr hM hT hoff), (s_off2.one hoff (by omega) (by omega) (by omega) (by omega))⟩
  · have hnp : u_best (m_D w) cnt cp = r_NP := (m_best okm h100).1.mp c_10
    refine g_iconst (-1) dX9_slack_13 (by rfl) ?_
    refine g_goto (tgt := 28) dX9_slack_14 (by decide) ?_
    refine g_ireturn dX9_slack_28 rfl ?_
    exact ⟨rfl, by rw [he.best] at *; first | rw [if_pos hnp] | rw [if_neg hnp], (m_R_q hP hr1 hrr hM hT hoff), (s_off2.one hoff (by omega) (by omega) (by omega) (by omega))⟩

theorem c_M_greedyPlan {h : s_H} {n m : Nat} {π : s_Pl} {t : Int32} (hR : m_R h m π t) (hn : m + 21 ≤ n) {cnt cp : Nat} (ok : d_ok π.1 cnt cp) : s_Mt TX9_greedyPlan 0 0 [.ref m] h n (s_rp n (fun v9 h1 => v9 = some (.int (if d_room π.1 cnt < 0 then -1 else v_gp π.1 cnt)) ∧ m_R h1 m π 0 ∧ s_off h h1 m (m + 21)) s_no) := by
  obtain ⟨I, w, sn, P, tx, rp, hP, -, hr1, hrr⟩ := hR
  have hM := hP.1
  have hT := hP.2.2.2.2.2.2.2
  have hm := hM.1
  have hw := hM.2
  have hoff : s_off2 h h m (m + 2) (m + 18) (m + 21) := fun _ _ _ => rfl
  have he : d_eq cnt (m_D w) π.1 := by
    obtain ⟨c9, p9, o9, e9⟩ := id hr1
    obtain rfl : c9 = cnt := o9.cn.symm.trans ok.cn
    exact e9
  have okm := he.sy.ok ok
  have hc := okm.1
  have h14 := ok.2.1
  have hcp := okm.2.2.1
  have h100 := ok.2.2.2.1
  refine s_Mt_of rfl (by decide) (by exact Nat.le_of_ble_eq_true rfl) ?_
  refine g_aload_n dX9_greedyPlan_0 rfl (by rfl) ?_
  refine g_iconst 0 dX9_greedyPlan_1 (by rfl) ?_
  refine g_putf' dX9_greedyPlan_2 pX9_59 (by exact hm) (by omega) (by exact Nat.le_of_ble_eq_true rfl) (by rfl) (by rfl) (fun h31 e31 => ?_)
  first | have hm_31 := s_up_off e31 (by omega) hm | have hm_31 := s_up_at e31
  first | have hw_31 := s_up_off e31 (by omega) hw | have hw_31 := s_up_at e31
  have hM := hM.th e31
  have qoff : s_off h h31 m (m + 1) := s_off.rf.up e31 (by omega)
  have hT := hT.off qoff (by omega)
  have hoff : s_off2 h h31 m (m + 2) (m + 18) (m + 21) := (qoff.wide (a' := m) (b' := m + 2) (by omega) (by omega)).l2
  have hm := hM.1
  have hw := hM.2
  refine g_aload_n dX9_greedyPlan_5 rfl (by rfl) ?_
  refine g_callV_e (c_X9_greedy hM hn okm) dX9_greedyPlan_6 (mX9_greedy) rfl lX9_296 iX9_greedy vX9_greedy (by decide) (by omega) (by exact hm) rfl rfl rfl rfl (Nat.le_of_ble_eq_true rfl) ?_
  refine g_ireturn dX9_greedyPlan_9 rfl ?_
  exact ⟨rfl, by rw [he.room, he.gp], (m_R_q hP hr1 hrr hM hT hoff), (s_off2.one hoff (by omega) (by omega) (by omega) (by omega))⟩

theorem c_M_greedyWeight {h : s_H} {n m : Nat} {π : s_Pl} {t : Int32} (hR : m_R h m π t) (hn : m + 21 ≤ n) {cnt cp : Nat} (ok : d_ok π.1 cnt cp) : s_Mt TX9_greedyWeight 0 0 [.ref m] h n (s_rp n (fun v9 h1 => v9 = some (.int (if d_room π.1 cnt < 0 then -1 else d_tot (d_wt π.1) (v_gp π.1 cnt) cnt)) ∧ m_R h1 m π 0 ∧ s_off h h1 m (m + 21)) s_no) := by
  obtain ⟨I, w, sn, P, tx, rp, hP, -, hr1, hrr⟩ := hR
  have hM := hP.1
  have hT := hP.2.2.2.2.2.2.2
  have hm := hM.1
  have hw := hM.2
  have hoff : s_off2 h h m (m + 2) (m + 18) (m + 21) := fun _ _ _ => rfl
  have he : d_eq cnt (m_D w) π.1 := by
    obtain ⟨c9, p9, o9, e9⟩ := id hr1
    obtain rfl : c9 = cnt := o9.cn.symm.trans ok.cn
    exact e9
  have okm := he.sy.ok ok
  have hc := okm.1
  have h14 := ok.2.1
  have hcp := okm.2.2.1
  have h100 := ok.2.2.2.1
  refine s_Mt_of rfl (by decide) (by exact Nat.le_of_ble_eq_true rfl) ?_
  refine g_aload_n dX9_greedyWeight_0 rfl (by rfl) ?_
  refine g_iconst 0 dX9_greedyWeight_1 (by rfl) ?_
  refine g_putf' dX9_greedyWeight_2 pX9_59 (by exact hm) (by omega) (by exact Nat.le_of_ble_eq_true rfl) (by rfl) (by rfl) (fun h31 e31 => ?_)
  first | have hm_31 := s_up_off e31 (by omega) hm | have hm_31 := s_up_at e31
  first | have hw_31 := s_up_off e31 (by omega) hw | have hw_31 := s_up_at e31
  have hM := hM.th e31
  have qoff : s_off h h31 m (m + 1) := s_off.rf.up e31 (by omega)
  have hT := hT.off qoff (by omega)
  have hoff : s_off2 h h31 m (m + 2) (m + 18) (m + 21) := (qoff.wide (a' := m) (b' := m + 2) (by omega) (by omega)).l2
  have hm := hM.1
  have hw := hM.2
  refine g_aload_n dX9_greedyWeight_5 rfl (by rfl) ?_
  refine g_callV_e (c_X9_greedyWeightNow hM hn okm) dX9_greedyWeight_6 (mX9_greedyWeightNow) rfl lX9_299 iX9_greedyWeightNow vX9_greedyWeightNow (by decide) (by omega) (by exact hm) rfl rfl rfl rfl (Nat.le_of_ble_eq_true rfl) ?_
  refine g_ireturn dX9_greedyWeight_9 rfl ?_
  exact ⟨rfl, by rw [he.room, he.gp, he.totw], (m_R_q hP hr1 hrr hM hT hoff), (s_off2.one hoff (by omega) (by omega) (by omega) (by omega))⟩

theorem c_M_upperBound {h : s_H} {n m : Nat} {π : s_Pl} {t : Int32} (hR : m_R h m π t) (hn : m + 21 ≤ n) {cnt cp : Nat} (ok : d_ok π.1 cnt cp) : s_Mt TX9_upperBound 0 0 [.ref m] h n (s_rp n (fun v9 h1 => v9 = some (.int (if d_room π.1 cnt < 0 then -1 else v_bd π.1 cnt)) ∧ m_R h1 m π 0 ∧ s_off h h1 m (m + 21)) s_no) := by
  obtain ⟨I, w, sn, P, tx, rp, hP, -, hr1, hrr⟩ := hR
  have hM := hP.1
  have hT := hP.2.2.2.2.2.2.2
  have hm := hM.1
  have hw := hM.2
  have hoff : s_off2 h h m (m + 2) (m + 18) (m + 21) := fun _ _ _ => rfl
  have he : d_eq cnt (m_D w) π.1 := by
    obtain ⟨c9, p9, o9, e9⟩ := id hr1
    obtain rfl : c9 = cnt := o9.cn.symm.trans ok.cn
    exact e9
  have okm := he.sy.ok ok
  have hc := okm.1
  have h14 := ok.2.1
  have hcp := okm.2.2.1
  have h100 := ok.2.2.2.1
  refine s_Mt_of rfl (by decide) (by exact Nat.le_of_ble_eq_true rfl) ?_
  refine g_aload_n dX9_upperBound_0 rfl (by rfl) ?_
  refine g_iconst 0 dX9_upperBound_1 (by rfl) ?_
  refine g_putf' dX9_upperBound_2 pX9_59 (by exact hm) (by omega) (by exact Nat.le_of_ble_eq_true rfl) (by rfl) (by rfl) (fun h31 e31 => ?_)
  first | have hm_31 := s_up_off e31 (by omega) hm | have hm_31 := s_up_at e31
  first | have hw_31 := s_up_off e31 (by omega) hw | have hw_31 := s_up_at e31
  have hM := hM.th e31
  have qoff : s_off h h31 m (m + 1) := s_off.rf.up e31 (by omega)
  have hT := hT.off qoff (by omega)
  have hoff : s_off2 h h31 m (m + 2) (m + 18) (m + 21) := (qoff.wide (a' := m) (b' := m + 2) (by omega) (by omega)).l2
  have hm := hM.1
  have hw := hM.2
  refine g_aload_n dX9_upperBound_5 rfl (by rfl) ?_
  refine g_callV_e (c_X9_bound hM hn okm) dX9_upperBound_6 (mX9_bound) rfl lX9_302 iX9_bound vX9_bound (by decide) (by omega) (by exact hm) rfl rfl rfl rfl (Nat.le_of_ble_eq_true rfl) ?_
  refine g_ireturn dX9_upperBound_9 rfl ?_
  exact ⟨rfl, by rw [he.room, he.vbd], (m_R_q hP hr1 hrr hM hT hoff), (s_off2.one hoff (by omega) (by omega) (by omega) (by omega))⟩
