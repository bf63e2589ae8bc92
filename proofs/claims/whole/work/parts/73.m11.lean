/-! THE MODEL: what it tells of an item, a number, a cell -/

theorem c_M_field {h : s_H} {n m : Nat} {π : s_Pl} {t : Int32} (hR : m_R h m π t) (hn : m + 21 ≤ n) {cnt cp : Nat} (ok : d_ok π.1 cnt cp) (x : Int32) (f : Nat) (hf : f < 4) : s_Mt TX9_field 0 0 [.ref m, .int x, .int (nI f)] h n (s_rp n (fun v9 h1 => ((s_in π x ∧ v9 = some (.int (π.1.1 f x.toNatClampNeg)) ∧ m_R h1 m π 0) ∨ (¬ s_in π x ∧ (∃ z, v9 = some (.int z)) ∧ m_R h1 m π 1)) ∧ s_off h h1 m (m + 21)) s_no) := by
  obtain ⟨I, w, sn, P, tx, rp, hP, -, hr1, hrr⟩ := hR
  have hM := hP.1
  have hT := hP.2.2.2.2.2.2.2
  have hm := hM.1
  have hw := hM.2
  have hoff : s_off h h m (m + 21) := s_off.rf
  have he : d_eq cnt (m_D w) π.1 := by
    obtain ⟨c9, p9, o9, e9⟩ := id hr1
    obtain rfl : c9 = cnt := o9.cn.symm.trans ok.cn
    exact e9
  have okm := he.sy.ok ok
  have hc := okm.1
  have h14 := ok.2.1
  have hcp := okm.2.2.1
  have h100 := ok.2.2.2.1
  refine s_Mt_of rfl (by decide) (by exact Nat.le_of_ble_eq_true rfl) ?_
  refine g_aload_n dX9_field_0 rfl (by rfl) ?_
  refine g_iconst 0 dX9_field_1 (by rfl) ?_
  refine g_putf' dX9_field_2 pX9_59 (by exact hm) (by omega) (by exact Nat.le_of_ble_eq_true rfl) (by rfl) (by rfl) (fun h31 e31 => ?_)
  first | have hm_31 := s_up_off e31 (by omega) hm | have hm_31 := s_up_at e31
  first | have hw_31 := s_up_off e31 (by omega) hw | have hw_31 := s_up_at e31
  have hM := hM.th e31
  have qoff : s_off _ h31 m (m + 1) := s_off.rf.up e31 (by omega)
  have hT := hT.off qoff (by omega)
  have hP := hP.q (qoff.wide (a' := m) (b' := m + 2) (by omega) (by omega)).l2 hM hT
  have hoff := hoff.trans (qoff.wide (a' := m) (b' := m + 21) (by omega) (by omega))
  have hm := hM.1
  have hw := hM.2
  refine g_aload_n dX9_field_5 rfl (by rfl) ?_
  refine g_iload_n dX9_field_6 rfl (by rfl) ?_
  refine g_callV_p (c_X9_noItem hM hn hc h14 x) dX9_field_7 (mX9_noItem) rfl lX9_134 iX9_noItem vX9_noItem (by decide) (by omega) (by exact hm) rfl rfl rfl rfl (Nat.le_of_ble_eq_true rfl) (fun v9 h9 z9 => ?_)
  obtain ⟨rfl, hM, qoff⟩ := z9
  have hT := hT.off qoff (by omega)
  have hP := hP.q (qoff.wide (a' := m) (b' := m + 2) (by omega) (by omega)).l2 hM hT
  have hoff := hoff.trans (qoff.wide (a' := m) (b' := m + 21) (by omega) (by omega))
  have hm := hM.1
  have hw := hM.2
  refine g_if_eq (tgt := 17) dX9_field_10 (by decide) (fun c_10 => ?_) (fun c_10 => ?_)
  · have hin : ¬ x < 0 ∧ x < nI cnt := Classical.byContradiction fun z => by rw [if_neg z] at c_10; exact absurd c_10 (by decide)
    rw [if_pos hin] at hM hP
    have hin : s_in π x := by unfold s_in; rw [ok.1]; exact hin
    obtain ⟨i, rfl, hi⟩ := hin.nat ok
    have hm := hM.1
    have hw := hM.2
    refine g_aload_n dX9_field_17 rfl (by rfl) ?_
    refine g_iload_n dX9_field_18 rfl (by rfl) ?_
    refine g_iload_n dX9_field_19 rfl (by rfl) ?_
    refine g_callV_e (c_X9_of hM hn i f (by omega)) dX9_field_20 (mX9_of) rfl lX9_73 iX9_of vX9_of (by decide) (by omega) (by exact hm) rfl rfl rfl rfl (Nat.le_of_ble_eq_true rfl) ?_
    refine g_ireturn dX9_field_23 rfl ?_
    first | exact ⟨rfl, Or.inl ⟨hin, by rw [nI_clamp (by omega)]; exact congrArg (fun x => some (Value.int x)) (he.2 f hf i hi), ⟨_, _, _, _, _, _, hP, rfl, hr1, hrr⟩⟩, hoff⟩ | exact ⟨rfl, Or.inr ⟨hin, ⟨_, rfl⟩, ⟨_, _, _, _, _, _, hP, rfl, hr1, hrr⟩⟩, hoff⟩
  · have hno : ¬ (¬ x < 0 ∧ x < nI cnt) := fun z => c_10 (by rw [if_pos z])
    rw [if_neg hno] at hM hP
    have hin : ¬ s_in π x := by unfold s_in; rw [ok.1]; exact hno
    have hm := hM.1
    have hw := hM.2
    refine g_iconst 0 dX9_field_13 (by rfl) ?_
    refine g_goto (tgt := 23) dX9_field_14 (by decide) ?_
    refine g_ireturn dX9_field_23 rfl ?_
    first | exact ⟨rfl, Or.inl ⟨hin, by rw [nI_clamp (by omega)]; exact congrArg (fun x => some (Value.int x)) (he.2 f hf i hi), ⟨_, _, _, _, _, _, hP, rfl, hr1, hrr⟩⟩, hoff⟩ | exact ⟨rfl, Or.inr ⟨hin, ⟨_, rfl⟩, ⟨_, _, _, _, _, _, hP, rfl, hr1, hrr⟩⟩, hoff⟩

theorem c_M_size {h : s_H} {n m : Nat} {π : s_Pl} {t : Int32} (hR : m_R h m π t) (hn : m + 21 ≤ n) {cnt cp : Nat} (ok : d_ok π.1 cnt cp) (x : Int32) : s_Mt TX9_size 0 0 [.ref m, .int x] h n (s_rp n (fun v9 h1 => ((s_in π x ∧ v9 = some (.int (π.1.1 0 x.toNatClampNeg)) ∧ m_R h1 m π 0) ∨ (¬ s_in π x ∧ (∃ z, v9 = some (.int z)) ∧ m_R h1 m π 1)) ∧ s_off h h1 m (m + 21)) s_no) := by
  have hm0 := hR.elim fun I q => q.elim fun w q => q.elim fun sn q => q.elim fun P q => q.elim fun tx q => q.elim fun rp q => (⟨I, q.1.1.1⟩ : ∃ I, h m = .inr (7, m_fs m I))
  obtain ⟨I0, hm0⟩ := hm0
  refine s_Mt_of rfl (by decide) (by exact Nat.le_of_ble_eq_true rfl) ?_
  refine g_aload_n dX9_size_0 rfl (by rfl) ?_
  refine g_iload_n dX9_size_1 rfl (by rfl) ?_
  refine g_iconst (nI 0) dX9_size_2 (by rfl) ?_
  refine g_callV_p (c_M_field hR hn ok x 0 (by omega)) dX9_size_3 (mX9_field) rfl lX9_277 iX9_field vX9_field (by decide) (by omega) (by exact hm0) rfl rfl rfl rfl (Nat.le_of_ble_eq_true rfl) (fun v9 h9 z9 => ?_)
  have hv : ∃ z : Int32, v9 = some (.int z) := by
    rcases z9.1 with q | q
    · exact ⟨_, q.2.1⟩
    · exact q.2.1
  obtain ⟨z, rfl⟩ := hv
  refine g_ireturn dX9_size_6 rfl ?_
  exact ⟨rfl, z9⟩

theorem c_M_value {h : s_H} {n m : Nat} {π : s_Pl} {t : Int32} (hR : m_R h m π t) (hn : m + 21 ≤ n) {cnt cp : Nat} (ok : d_ok π.1 cnt cp) (x : Int32) : s_Mt TX9_value 0 0 [.ref m, .int x] h n (s_rp n (fun v9 h1 => ((s_in π x ∧ v9 = some (.int (π.1.1 1 x.toNatClampNeg)) ∧ m_R h1 m π 0) ∨ (¬ s_in π x ∧ (∃ z, v9 = some (.int z)) ∧ m_R h1 m π 1)) ∧ s_off h h1 m (m + 21)) s_no) := by
  have hm0 := hR.elim fun I q => q.elim fun w q => q.elim fun sn q => q.elim fun P q => q.elim fun tx q => q.elim fun rp q => (⟨I, q.1.1.1⟩ : ∃ I, h m = .inr (7, m_fs m I))
  obtain ⟨I0, hm0⟩ := hm0
  refine s_Mt_of rfl (by decide) (by exact Nat.le_of_ble_eq_true rfl) ?_
  refine g_aload_n dX9_value_0 rfl (by rfl) ?_
  refine g_iload_n dX9_value_1 rfl (by rfl) ?_
  refine g_iconst (nI 1) dX9_value_2 (by rfl) ?_
  refine g_callV_p (c_M_field hR hn ok x 1 (by omega)) dX9_value_3 (mX9_field) rfl lX9_277 iX9_field vX9_field (by decide) (by omega) (by exact hm0) rfl rfl rfl rfl (Nat.le_of_ble_eq_true rfl) (fun v9 h9 z9 => ?_)
  have hv : ∃ z : Int32, v9 = some (.int z) := by
    rcases z9.1 with q | q
    · exact ⟨_, q.2.1⟩
    · exact q.2.1
  obtain ⟨z, rfl⟩ := hv
  refine g_ireturn dX9_value_6 rfl ?_
  exact ⟨rfl, z9⟩

theorem c_M_age {h : s_H} {n m : Nat} {π : s_Pl} {t : Int32} (hR : m_R h m π t) (hn : m + 21 ≤ n) {cnt cp : Nat} (ok : d_ok π.1 cnt cp) (x : Int32) : s_Mt TX9_age 0 0 [.ref m, .int x] h n (s_rp n (fun v9 h1 => ((s_in π x ∧ v9 = some (.int (π.1.1 2 x.toNatClampNeg)) ∧ m_R h1 m π 0) ∨ (¬ s_in π x ∧ (∃ z, v9 = some (.int z)) ∧ m_R h1 m π 1)) ∧ s_off h h1 m (m + 21)) s_no) := by
  have hm0 := hR.elim fun I q => q.elim fun w q => q.elim fun sn q => q.elim fun P q => q.elim fun tx q => q.elim fun rp q => (⟨I, q.1.1.1⟩ : ∃ I, h m = .inr (7, m_fs m I))
  obtain ⟨I0, hm0⟩ := hm0
  refine s_Mt_of rfl (by decide) (by exact Nat.le_of_ble_eq_true rfl) ?_
  refine g_aload_n dX9_age_0 rfl (by rfl) ?_
  refine g_iload_n dX9_age_1 rfl (by rfl) ?_
  refine g_iconst (nI 2) dX9_age_2 (by rfl) ?_
  refine g_callV_p (c_M_field hR hn ok x 2 (by omega)) dX9_age_3 (mX9_field) rfl lX9_277 iX9_field vX9_field (by decide) (by omega) (by exact hm0) rfl rfl rfl rfl (Nat.le_of_ble_eq_true rfl) (fun v9 h9 z9 => ?_)
  have hv : ∃ z : Int32, v9 = some (.int z) := by
    rcases z9.1 with q | q
    · exact ⟨_, q.2.1⟩
    · exact q.2.1
  obtain ⟨z, rfl⟩ := hv
  refine g_ireturn dX9_age_6 rfl ?_
  exact ⟨rfl, z9⟩

theorem c_M_state {h : s_H} {n m : Nat} {π : s_Pl} {t : Int32} (hR : m_R h m π t) (hn : m + 21 ≤ n) {cnt cp : Nat} (ok : d_ok π.1 cnt cp) (x : Int32) : s_Mt TX9_state 0 0 [.ref m, .int x] h n (s_rp n (fun v9 h1 => ((s_in π x ∧ v9 = some (.int (π.1.1 3 x.toNatClampNeg)) ∧ m_R h1 m π 0) ∨ (¬ s_in π x ∧ (∃ z, v9 = some (.int z)) ∧ m_R h1 m π 1)) ∧ s_off h h1 m (m + 21)) s_no) := by
  have hm0 := hR.elim fun I q => q.elim fun w q => q.elim fun sn q => q.elim fun P q => q.elim fun tx q => q.elim fun rp q => (⟨I, q.1.1.1⟩ : ∃ I, h m = .inr (7, m_fs m I))
  obtain ⟨I0, hm0⟩ := hm0
  refine s_Mt_of rfl (by decide) (by exact Nat.le_of_ble_eq_true rfl) ?_
  refine g_aload_n dX9_state_0 rfl (by rfl) ?_
  refine g_iload_n dX9_state_1 rfl (by rfl) ?_
  refine g_iconst (nI 3) dX9_state_2 (by rfl) ?_
  refine g_callV_p (c_M_field hR hn ok x 3 (by omega)) dX9_state_3 (mX9_field) rfl lX9_277 iX9_field vX9_field (by decide) (by omega) (by exact hm0) rfl rfl rfl rfl (Nat.le_of_ble_eq_true rfl) (fun v9 h9 z9 => ?_)
  have hv : ∃ z : Int32, v9 = some (.int z) := by
    rcases z9.1 with q | q
    · exact ⟨_, q.2.1⟩
    · exact q.2.1
  obtain ⟨z, rfl⟩ := hv
  refine g_ireturn dX9_state_6 rfl ?_
  exact ⟨rfl, z9⟩

theorem c_M_weight {h : s_H} {n m : Nat} {π : s_Pl} {t : Int32} (hR : m_R h m π t) (hn : m + 21 ≤ n) {cnt cp : Nat} (ok : d_ok π.1 cnt cp) (x : Int32) : s_Mt TX9_weight 0 0 [.ref m, .int x] h n (s_rp n (fun v9 h1 => ((s_in π x ∧ v9 = some (.int (d_wt π.1 x.toNatClampNeg)) ∧ m_R h1 m π 0) ∨ (¬ s_in π x ∧ (∃ z, v9 = some (.int z)) ∧ m_R h1 m π 1)) ∧ s_off h h1 m (m + 21)) s_no) := by
  obtain ⟨I, w, sn, P, tx, rp, hP, -, hr1, hrr⟩ := hR
  have hM := hP.1
  have hT := hP.2.2.2.2.2.2.2
  have hm := hM.1
  have hw := hM.2
  have hoff : s_off h h m (m + 21) := s_off.rf
  have he : d_eq cnt (m_D w) π.1 := by
    obtain ⟨c9, p9, o9, e9⟩ := id hr1
    obtain rfl : c9 = cnt := o9.cn.symm.trans ok.cn
    exact e9
  have okm := he.sy.ok ok
  have hc := okm.1
  have h14 := ok.2.1
  have hcp := okm.2.2.1
  have h100 := ok.2.2.2.1
  refine s_Mt_of rfl (by decide) (by exact Nat.le_of_ble_eq_true rfl) ?_
  refine g_aload_n dX9_weight_0 rfl (by rfl) ?_
  refine g_iconst 0 dX9_weight_1 (by rfl) ?_
  refine g_putf' dX9_weight_2 pX9_59 (by exact hm) (by omega) (by exact Nat.le_of_ble_eq_true rfl) (by rfl) (by rfl) (fun h31 e31 => ?_)
  first | have hm_31 := s_up_off e31 (by omega) hm | have hm_31 := s_up_at e31
  first | have hw_31 := s_up_off e31 (by omega) hw | have hw_31 := s_up_at e31
  have hM := hM.th e31
  have qoff : s_off _ h31 m (m + 1) := s_off.rf.up e31 (by omega)
  have hT := hT.off qoff (by omega)
  have hP := hP.q (qoff.wide (a' := m) (b' := m + 2) (by omega) (by omega)).l2 hM hT
  have hoff := hoff.trans (qoff.wide (a' := m) (b' := m + 21) (by omega) (by omega))
  have hm := hM.1
  have hw := hM.2
  refine g_aload_n dX9_weight_5 rfl (by rfl) ?_
  refine g_iload_n dX9_weight_6 rfl (by rfl) ?_
  refine g_callV_p (c_X9_noItem hM hn hc h14 x) dX9_weight_7 (mX9_noItem) rfl lX9_134 iX9_noItem vX9_noItem (by decide) (by omega) (by exact hm) rfl rfl rfl rfl (Nat.le_of_ble_eq_true rfl) (fun v9 h9 z9 => ?_)
  obtain ⟨rfl, hM, qoff⟩ := z9
  have hT := hT.off qoff (by omega)
  have hP := hP.q (qoff.wide (a' := m) (b' := m + 2) (by omega) (by omega)).l2 hM hT
  have hoff := hoff.trans (qoff.wide (a' := m) (b' := m + 21) (by omega) (by omega))
  have hm := hM.1
  have hw := hM.2
  refine g_if_eq (tgt := 17) dX9_weight_10 (by decide) (fun c_10 => ?_) (fun c_10 => ?_)
  · have hin : ¬ x < 0 ∧ x < nI cnt := Classical.byContradiction fun z => by rw [if_neg z] at c_10; exact absurd c_10 (by decide)
    rw [if_pos hin] at hM hP
    have hin : s_in π x := by unfold s_in; rw [ok.1]; exact hin
    obtain ⟨i, rfl, hi⟩ := hin.nat ok
    have hm := hM.1
    have hw := hM.2
    refine g_aload_n dX9_weight_17 rfl (by rfl) ?_
    refine g_iload_n dX9_weight_18 rfl (by rfl) ?_
    refine g_callV_e (c_X9_weightOf hM hn i (by omega)) dX9_weight_19 (mX9_weightOf) rfl lX9_83 iX9_weightOf vX9_weightOf (by decide) (by omega) (by exact hm) rfl rfl rfl rfl (Nat.le_of_ble_eq_true rfl) ?_
    refine g_ireturn dX9_weight_22 rfl ?_
    first | exact ⟨rfl, Or.inl ⟨hin, by rw [nI_clamp (by omega)]; exact congrArg (fun x => some (Value.int x)) (he.wt hi), ⟨_, _, _, _, _, _, hP, rfl, hr1, hrr⟩⟩, hoff⟩ | exact ⟨rfl, Or.inr ⟨hin, ⟨_, rfl⟩, ⟨_, _, _, _, _, _, hP, rfl, hr1, hrr⟩⟩, hoff⟩
  · have hno : ¬ (¬ x < 0 ∧ x < nI cnt) := fun z => c_10 (by rw [if_pos z])
    rw [if_neg hno] at hM hP
    have hin : ¬ s_in π x := by unfold s_in; rw [ok.1]; exact hno
    have hm := hM.1
    have hw := hM.2
    refine g_iconst 0 dX9_weight_13 (by rfl) ?_
    refine g_goto (tgt := 22) dX9_weight_14 (by decide) ?_
    refine g_ireturn dX9_weight_22 rfl ?_
    first | exact ⟨rfl, Or.inl ⟨hin, by rw [nI_clamp (by omega)]; exact congrArg (fun x => some (Value.int x)) (he.wt hi), ⟨_, _, _, _, _, _, hP, rfl, hr1, hrr⟩⟩, hoff⟩ | exact ⟨rfl, Or.inr ⟨hin, ⟨_, rfl⟩, ⟨_, _, _, _, _, _, hP, rfl, hr1, hrr⟩⟩, hoff⟩

theorem c_M_isTaken {h : s_H} {n m : Nat} {π : s_Pl} {t : Int32} (hR : m_R h m π t) (hn : m + 21 ≤ n) {cnt cp : Nat} (ok : d_ok π.1 cnt cp) (x : Int32) : s_Mt TX9_isTaken 0 0 [.ref m, .int x] h n (s_rp n (fun v9 h1 => ((s_in π x ∧ v9 = some (.int (if s_bit (r_se (u_best π.1 cnt cp)) x = 0 then 0 else 1)) ∧ m_R h1 m π 0) ∨ (¬ s_in π x ∧ (∃ z, v9 = some (.int z)) ∧ m_R h1 m π 1)) ∧ s_off h h1 m (m + 21)) s_no) := by
  obtain ⟨I, w, sn, P, tx, rp, hP, -, hr1, hrr⟩ := hR
  have hM := hP.1
  have hT := hP.2.2.2.2.2.2.2
  have hm := hM.1
  have hw := hM.2
  have hoff : s_off h h m (m + 21) := s_off.rf
  have he : d_eq cnt (m_D w) π.1 := by
    obtain ⟨c9, p9, o9, e9⟩ := id hr1
    obtain rfl : c9 = cnt := o9.cn.symm.trans ok.cn
    exact e9
  have okm := he.sy.ok ok
  have hc := okm.1
  have h14 := ok.2.1
  have hcp := okm.2.2.1
  have h100 := ok.2.2.2.1
  refine s_Mt_of rfl (by decide) (by exact Nat.le_of_ble_eq_true rfl) ?_
  refine g_aload_n dX9_isTaken_0 rfl (by rfl) ?_
  refine g_iconst 0 dX9_isTaken_1 (by rfl) ?_
  refine g_putf' dX9_isTaken_2 pX9_59 (by exact hm) (by omega) (by exact Nat.le_of_ble_eq_true rfl) (by rfl) (by rfl) (fun h31 e31 => ?_)
  first | have hm_31 := s_up_off e31 (by omega) hm | have hm_31 := s_up_at e31
  first | have hw_31 := s_up_off e31 (by omega) hw | have hw_31 := s_up_at e31
  have hM := hM.th e31
  have qoff : s_off _ h31 m (m + 1) := s_off.rf.up e31 (by omega)
  have hT := hT.off qoff (by omega)
  have hP := hP.q (qoff.wide (a' := m) (b' := m + 2) (by omega) (by omega)).l2 hM hT
  have hoff := hoff.trans (qoff.wide (a' := m) (b' := m + 21) (by omega) (by omega))
  have hm := hM.1
  have hw := hM.2
  refine g_aload_n dX9_isTaken_5 rfl (by rfl) ?_
  refine g_iload_n dX9_isTaken_6 rfl (by rfl) ?_
  refine g_callV_p (c_X9_noItem hM hn hc h14 x) dX9_isTaken_7 (mX9_noItem) rfl lX9_134 iX9_noItem vX9_noItem (by decide) (by omega) (by exact hm) rfl rfl rfl rfl (Nat.le_of_ble_eq_true rfl) (fun v9 h9 z9 => ?_)
  obtain ⟨rfl, hM, qoff⟩ := z9
  have hT := hT.off qoff (by omega)
  have hP := hP.q (qoff.wide (a' := m) (b' := m + 2) (by omega) (by omega)).l2 hM hT
  have hoff := hoff.trans (qoff.wide (a' := m) (b' := m + 21) (by omega) (by omega))
  have hm := hM.1
  have hw := hM.2
  refine g_if_ne (tgt := 36) dX9_isTaken_10 (by decide) (fun c_10 => ?_) (fun c_10 => ?_)
  · have hno : ¬ (¬ x < 0 ∧ x < nI cnt) := fun z => c_10 (by rw [if_pos z])
    rw [if_neg hno] at hM hP
    have hin : ¬ s_in π x := by unfold s_in; rw [ok.1]; exact hno
    have hm := hM.1
    have hw := hM.2
    refine g_iconst 0 dX9_isTaken_36 (by rfl) ?_
    refine g_zreturn dX9_isTaken_37 rfl (by decide) ?_
    first | exact ⟨rfl, Or.inl ⟨hin, by rw [← he.best, ((m_best okm h100).2 hnp).2.2, if_pos hz], ⟨_, _, _, _, _, _, hP, rfl, hr1, hrr⟩⟩, hoff⟩ | exact ⟨rfl, Or.inl ⟨hin, by rw [← he.best, ((m_best okm h100).2 hnp).2.2, if_neg hz], ⟨_, _, _, _, _, _, hP, rfl, hr1, hrr⟩⟩, hoff⟩ | exact ⟨rfl, Or.inl ⟨hin, by rw [← he.best, hpp]; rw [if_pos (by rw [show r_se r_NP = nI 0 from rfl, b_bit (by omega) (by omega), Nat.zero_testBit]; rfl)], ⟨_, _, _, _, _, _, hP, rfl, hr1, hrr⟩⟩, hoff⟩ | exact ⟨rfl, Or.inr ⟨hin, ⟨_, rfl⟩, ⟨_, _, _, _, _, _, hP, rfl, hr1, hrr⟩⟩, hoff⟩
  · have hin : ¬ x < 0 ∧ x < nI cnt := Classical.byContradiction fun z => by rw [if_neg z] at c_10; exact absurd c_10 (by decide)
    rw [if_pos hin] at hM hP
    have hin : s_in π x := by unfold s_in; rw [ok.1]; exact hin
    obtain ⟨i, rfl, hi⟩ := hin.nat ok
    have hm := hM.1
    have hw := hM.2
    refine g_aload_n dX9_isTaken_13 rfl (by rfl) ?_
    refine g_callV_p (c_X9_best hM hn okm hT) dX9_isTaken_14 (mX9_best) rfl lX9_123 iX9_best vX9_best (by decide) (by omega) (by exact hm) rfl rfl rfl rfl (Nat.le_of_ble_eq_true rfl) (fun v9 h9 z9 => ?_)
    obtain ⟨rfl, hT, qoff⟩ := z9
    have hM := hM.off qoff (by omega)
    have hP := hP.q qoff.r2 hM hT
    have hoff := hoff.trans (qoff.wide (a' := m) (b' := m + 21) (by omega) (by omega))
    have hm := hM.1
    have hw := hM.2
    refine g_iconst (-1) dX9_isTaken_17 (by rfl) ?_
    refine g_icmp_eq (tgt := 36) dX9_isTaken_18 (by decide) (fun c_18 => ?_) (fun c_18 => ?_)
    · have hpp : u_best (m_D w) cnt cp = r_NP := (m_best okm h100).1.mp c_18
      refine g_iconst 0 dX9_isTaken_36 (by rfl) ?_
      refine g_zreturn dX9_isTaken_37 rfl (by decide) ?_
      first | exact ⟨rfl, Or.inl ⟨hin, by rw [← he.best, ((m_best okm h100).2 hnp).2.2, if_pos hz], ⟨_, _, _, _, _, _, hP, rfl, hr1, hrr⟩⟩, hoff⟩ | exact ⟨rfl, Or.inl ⟨hin, by rw [← he.best, ((m_best okm h100).2 hnp).2.2, if_neg hz], ⟨_, _, _, _, _, _, hP, rfl, hr1, hrr⟩⟩, hoff⟩ | exact ⟨rfl, Or.inl ⟨hin, by rw [← he.best, hpp]; rw [if_pos (by rw [show r_se r_NP = nI 0 from rfl, b_bit (by omega) (by omega), Nat.zero_testBit]; rfl)], ⟨_, _, _, _, _, _, hP, rfl, hr1, hrr⟩⟩, hoff⟩ | exact ⟨rfl, Or.inr ⟨hin, ⟨_, rfl⟩, ⟨_, _, _, _, _, _, hP, rfl, hr1, hrr⟩⟩, hoff⟩
    · have hnp : ¬ u_best (m_D w) cnt cp = r_NP := fun z => c_18 ((m_best okm h100).1.mpr z)
      refine g_aload_n dX9_isTaken_21 rfl (by rfl) ?_
      refine g_callV_p (c_X9_best hM hn okm hT) dX9_isTaken_22 (mX9_best) rfl lX9_123 iX9_best vX9_best (by decide) (by omega) (by exact hm) rfl rfl rfl rfl (Nat.le_of_ble_eq_true rfl) (fun v9 h9 z9 => ?_)
      obtain ⟨rfl, hT, qoff⟩ := z9
      have hM := hM.off qoff (by omega)
      have hP := hP.q qoff.r2 hM hT
      have hoff := hoff.trans (qoff.wide (a' := m) (b' := m + 21) (by omega) (by omega))
      have hm := hM.1
      have hw := hM.2
      refine g_iload_n dX9_isTaken_25 rfl (by rfl) ?_
      refine g_callS_e (c_X9_has _ _) dX9_isTaken_26 (mX9_has) rfl lX9_80 sX9_has (by decide) rfl rfl (Nat.le_of_ble_eq_true rfl) ?_
      refine g_if_eq (tgt := 36) dX9_isTaken_29 (by decide) (fun c_29 => ?_) (fun c_29 => ?_)
      · have hz : s_bit (r_st (u_best (m_D w) cnt cp)) (nI i) = 0 := Classical.byContradiction fun z => by rw [if_neg z] at c_29; exact absurd c_29 (by decide)
        refine g_iconst 0 dX9_isTaken_36 (by rfl) ?_
        refine g_zreturn dX9_isTaken_37 rfl (by decide) ?_
        first | exact ⟨rfl, Or.inl ⟨hin, by rw [← he.best, ((m_best okm h100).2 hnp).2.2, if_pos hz], ⟨_, _, _, _, _, _, hP, rfl, hr1, hrr⟩⟩, hoff⟩ | exact ⟨rfl, Or.inl ⟨hin, by rw [← he.best, ((m_best okm h100).2 hnp).2.2, if_neg hz], ⟨_, _, _, _, _, _, hP, rfl, hr1, hrr⟩⟩, hoff⟩ | exact ⟨rfl, Or.inl ⟨hin, by rw [← he.best, hpp]; rw [if_pos (by rw [show r_se r_NP = nI 0 from rfl, b_bit (by omega) (by omega), Nat.zero_testBit]; rfl)], ⟨_, _, _, _, _, _, hP, rfl, hr1, hrr⟩⟩, hoff⟩ | exact ⟨rfl, Or.inr ⟨hin, ⟨_, rfl⟩, ⟨_, _, _, _, _, _, hP, rfl, hr1, hrr⟩⟩, hoff⟩
      · have hz : ¬ s_bit (r_st (u_best (m_D w) cnt cp)) (nI i) = 0 := fun z => c_29 (by rw [if_pos z])
        refine g_iconst 1 dX9_isTaken_32 (by rfl) ?_
        refine g_goto (tgt := 37) dX9_isTaken_33 (by decide) ?_
        refine g_zreturn dX9_isTaken_37 rfl (by decide) ?_
        first | exact ⟨rfl, Or.inl ⟨hin, by rw [← he.best, ((m_best okm h100).2 hnp).2.2, if_pos hz], ⟨_, _, _, _, _, _, hP, rfl, hr1, hrr⟩⟩, hoff⟩ | exact ⟨rfl, Or.inl ⟨hin, by rw [← he.best, ((m_best okm h100).2 hnp).2.2, if_neg hz], ⟨_, _, _, _, _, _, hP, rfl, hr1, hrr⟩⟩, hoff⟩ | exact ⟨rfl, Or.inl ⟨hin, by rw [← he.best, hpp]; rw [if_pos (by rw [show r_se r_NP = nI 0 from rfl, b_bit (by omega) (by omega), Nat.zero_testBit]; rfl)], ⟨_, _, _, _, _, _, hP, rfl, hr1, hrr⟩⟩, hoff⟩ | exact ⟨rfl, Or.inr ⟨hin, ⟨_, rfl⟩, ⟨_, _, _, _, _, _, hP, rfl, hr1, hrr⟩⟩, hoff⟩

theorem c_M_lossIfExcluded {h : s_H} {n m : Nat} {π : s_Pl} {t : Int32} (hR : m_R h m π t) (hn : m + 21 ≤ n) {cnt cp : Nat} (ok : d_ok π.1 cnt cp) (x : Int32) : s_Mt TX9_lossIfExcluded 0 0 [.ref m, .int x] h n (s_rp n (fun v9 h1 => ((s_in π x ∧ v9 = some (.int (if u_best π.1 cnt cp = r_NP then 0 else r_wt (u_best π.1 cnt cp) - r_wt (u_best (d_put π.1 3 x.toNatClampNeg 2) cnt cp))) ∧ m_R h1 m π 0) ∨ (¬ s_in π x ∧ (∃ z, v9 = some (.int z)) ∧ m_R h1 m π 1)) ∧ s_off h h1 m (m + 21)) s_no) := by
  obtain ⟨I, w, sn, P, tx, rp, hP, -, hr1, hrr⟩ := hR
  have hM := hP.1
  have hT := hP.2.2.2.2.2.2.2
  have hm := hM.1
  have hw := hM.2
  have hoff : s_off h h m (m + 21) := s_off.rf
  have he : d_eq cnt (m_D w) π.1 := by
    obtain ⟨c9, p9, o9, e9⟩ := id hr1
    obtain rfl : c9 = cnt := o9.cn.symm.trans ok.cn
    exact e9
  have okm := he.sy.ok ok
  have hc := okm.1
  have h14 := ok.2.1
  have hcp := okm.2.2.1
  have h100 := ok.2.2.2.1
  refine s_Mt_of rfl (by decide) (by exact Nat.le_of_ble_eq_true rfl) ?_
  refine g_aload_n dX9_lossIfExcluded_0 rfl (by rfl) ?_
  refine g_iconst 0 dX9_lossIfExcluded_1 (by rfl) ?_
  refine g_putf' dX9_lossIfExcluded_2 pX9_59 (by exact hm) (by omega) (by exact Nat.le_of_ble_eq_true rfl) (by rfl) (by rfl) (fun h31 e31 => ?_)
  first | have hm_31 := s_up_off e31 (by omega) hm | have hm_31 := s_up_at e31
  first | have hw_31 := s_up_off e31 (by omega) hw | have hw_31 := s_up_at e31
  have hM := hM.th e31
  have qoff : s_off _ h31 m (m + 1) := s_off.rf.up e31 (by omega)
  have hT := hT.off qoff (by omega)
  have hP := hP.q (qoff.wide (a' := m) (b' := m + 2) (by omega) (by omega)).l2 hM hT
  have hoff := hoff.trans (qoff.wide (a' := m) (b' := m + 21) (by omega) (by omega))
  have hm := hM.1
  have hw := hM.2
  refine g_aload_n dX9_lossIfExcluded_5 rfl (by rfl) ?_
  refine g_iload_n dX9_lossIfExcluded_6 rfl (by rfl) ?_
  refine g_callV_p (c_X9_noItem hM hn hc h14 x) dX9_lossIfExcluded_7 (mX9_noItem) rfl lX9_134 iX9_noItem vX9_noItem (by decide) (by omega) (by exact hm) rfl rfl rfl rfl (Nat.le_of_ble_eq_true rfl) (fun v9 h9 z9 => ?_)
  obtain ⟨rfl, hM, qoff⟩ := z9
  have hT := hT.off qoff (by omega)
  have hP := hP.q (qoff.wide (a' := m) (b' := m + 2) (by omega) (by omega)).l2 hM hT
  have hoff := hoff.trans (qoff.wide (a' := m) (b' := m + 21) (by omega) (by omega))
  have hm := hM.1
  have hw := hM.2
  refine g_if_ne (tgt := 21) dX9_lossIfExcluded_10 (by decide) (fun c_10 => ?_) (fun c_10 => ?_)
  · have hno : ¬ (¬ x < 0 ∧ x < nI cnt) := fun z => c_10 (by rw [if_pos z])
    rw [if_neg hno] at hM hP
    have hin : ¬ s_in π x := by unfold s_in; rw [ok.1]; exact hno
    have hm := hM.1
    have hw := hM.2
    refine g_iconst 0 dX9_lossIfExcluded_21 (by rfl) ?_
    refine g_ireturn dX9_lossIfExcluded_22 rfl ?_
    first | exact ⟨rfl, Or.inl ⟨hin, by rw [← he.best, if_neg hnp, nI_clamp (by omega), show u_best (d_put (m_D w) 3 i (nI 2)) cnt cp = u_best (d_put π.1 3 i 2) cnt cp from (he.put (by omega)).best], ⟨_, _, _, _, _, _, hP, rfl, hr1, hrr⟩⟩, hoff⟩ | exact ⟨rfl, Or.inl ⟨hin, by rw [← he.best, if_pos hpp], ⟨_, _, _, _, _, _, hP, rfl, hr1, hrr⟩⟩, hoff⟩ | exact ⟨rfl, Or.inr ⟨hin, ⟨_, rfl⟩, ⟨_, _, _, _, _, _, hP, rfl, hr1, hrr⟩⟩, hoff⟩
  · have hin : ¬ x < 0 ∧ x < nI cnt := Classical.byContradiction fun z => by rw [if_neg z] at c_10; exact absurd c_10 (by decide)
    rw [if_pos hin] at hM hP
    have hin : s_in π x := by unfold s_in; rw [ok.1]; exact hin
    obtain ⟨i, rfl, hi⟩ := hin.nat ok
    have hm := hM.1
    have hw := hM.2
    refine g_aload_n dX9_lossIfExcluded_13 rfl (by rfl) ?_
    refine g_callV_p (c_X9_best hM hn okm hT) dX9_lossIfExcluded_14 (mX9_best) rfl lX9_123 iX9_best vX9_best (by decide) (by omega) (by exact hm) rfl rfl rfl rfl (Nat.le_of_ble_eq_true rfl) (fun v9 h9 z9 => ?_)
    obtain ⟨rfl, hT, qoff⟩ := z9
    have hM := hM.off qoff (by omega)
    have hP := hP.q qoff.r2 hM hT
    have hoff := hoff.trans (qoff.wide (a' := m) (b' := m + 21) (by omega) (by omega))
    have hm := hM.1
    have hw := hM.2
    refine g_iconst (-1) dX9_lossIfExcluded_17 (by rfl) ?_
    refine g_icmp_ne (tgt := 23) dX9_lossIfExcluded_18 (by decide) (fun c_18 => ?_) (fun c_18 => ?_)
    · have hnp : ¬ u_best (m_D w) cnt cp = r_NP := fun z => c_18 ((m_best okm h100).1.mpr z)
      refine g_aload_n dX9_lossIfExcluded_23 rfl (by rfl) ?_
      refine g_callV_p (c_X9_bestWeightNow hM hn okm hT) dX9_lossIfExcluded_24 (mX9_bestWeightNow) rfl lX9_280 iX9_bestWeightNow vX9_bestWeightNow (by decide) (by omega) (by exact hm) rfl rfl rfl rfl (Nat.le_of_ble_eq_true rfl) (fun v9 h9 z9 => ?_)
      obtain ⟨rfl, hT, qoff⟩ := z9
      have hM := hM.off qoff (by omega)
      have hP := hP.q qoff.r2 hM hT
      have hoff := hoff.trans (qoff.wide (a' := m) (b' := m + 21) (by omega) (by omega))
      have hm := hM.1
      have hw := hM.2
      refine g_aload_n dX9_lossIfExcluded_27 rfl (by rfl) ?_
      refine g_iload_n dX9_lossIfExcluded_28 rfl (by rfl) ?_
      refine g_iconst (nI 2) dX9_lossIfExcluded_29 (by rfl) ?_
      refine g_callV_p (c_X9_weightIf hM hn okm hT hi (st := 2) (by omega)) dX9_lossIfExcluded_30 (mX9_weightIf) rfl lX9_305 iX9_weightIf vX9_weightIf (by decide) (by omega) (by exact hm) rfl rfl rfl rfl (Nat.le_of_ble_eq_true rfl) (fun v9 h9 z9 => ?_)
      obtain ⟨rfl, hM, hT, qoff⟩ := z9
      have qoff9 : s_off2 _ _ m (m + 2) (m + 18) (m + 21) := fun j a b => qoff j (by omega) b
      have hP := hP.q qoff9 hM hT
      have hoff := hoff.trans (qoff9.one (x := m) (y := m + 21) (by omega) (by omega) (by omega) (by omega))
      have hm := hM.1
      have hw := hM.2
      refine g_isub dX9_lossIfExcluded_33 ?_
      refine g_ireturn dX9_lossIfExcluded_34 rfl ?_
      first | exact ⟨rfl, Or.inl ⟨hin, by rw [← he.best, if_neg hnp, nI_clamp (by omega), show u_best (d_put (m_D w) 3 i (nI 2)) cnt cp = u_best (d_put π.1 3 i 2) cnt cp from (he.put (by omega)).best], ⟨_, _, _, _, _, _, hP, rfl, hr1, hrr⟩⟩, hoff⟩ | exact ⟨rfl, Or.inl ⟨hin, by rw [← he.best, if_pos hpp], ⟨_, _, _, _, _, _, hP, rfl, hr1, hrr⟩⟩, hoff⟩ | exact ⟨rfl, Or.inr ⟨hin, ⟨_, rfl⟩, ⟨_, _, _, _, _, _, hP, rfl, hr1, hrr⟩⟩, hoff⟩
    · have hpp : u_best (m_D w) cnt cp = r_NP := (m_best okm h100).1.mp c_18
      refine g_iconst 0 dX9_lossIfExcluded_21 (by rfl) ?_
      refine g_ireturn dX9_lossIfExcluded_22 rfl ?_
      first | exact ⟨rfl, Or.inl ⟨hin, by rw [← he.best, if_neg hnp, nI_clamp (by omega), show u_best (d_put (m_D w) 3 i (nI 2)) cnt cp = u_best (d_put π.1 3 i 2) cnt cp from (he.put (by omega)).best], ⟨_, _, _, _, _, _, hP, rfl, hr1, hrr⟩⟩, hoff⟩ | exact ⟨rfl, Or.inl ⟨hin, by rw [← he.best, if_pos hpp], ⟨_, _, _, _, _, _, hP, rfl, hr1, hrr⟩⟩, hoff⟩ | exact ⟨rfl, Or.inr ⟨hin, ⟨_, rfl⟩, ⟨_, _, _, _, _, _, hP, rfl, hr1, hrr⟩⟩, hoff⟩

theorem m_wt1 {σ : s_D} {cnt cp c : Nat} (ok : d_ok σ cnt cp) (hc : c ≤ 100) : r_wt (u_best σ cnt c) = -1 ↔ u_best σ cnt c = r_NP := by
  have h14 := ok.2.1
  by_cases hr : k_P σ cnt ≤ c
  · obtain ⟨h1, -, -, -, h5⟩ := k_tell ok hc hr
    have hb := (k_psb ok (t := k_T σ cnt (c - k_P σ cnt)) cnt (Nat.le_refl _)).2
    rw [h1]
    exact ⟨fun z => absurd z (nI_m1 (by omega)), fun z => absurd z h5⟩
  · have h5 := k_none ok hc (by omega)
    rw [h5]
    exact ⟨fun _ => rfl, fun _ => rfl⟩

theorem c_M_lossIfPinned {h : s_H} {n m : Nat} {π : s_Pl} {t : Int32} (hR : m_R h m π t) (hn : m + 21 ≤ n) {cnt cp : Nat} (ok : d_ok π.1 cnt cp) (x : Int32) : s_Mt TX9_lossIfPinned 0 0 [.ref m, .int x] h n (s_rp n (fun v9 h1 => ((s_in π x ∧ v9 = some (.int (if u_best π.1 cnt cp = r_NP ∨ u_best (d_put π.1 3 x.toNatClampNeg 1) cnt cp = r_NP then -1 else r_wt (u_best π.1 cnt cp) - r_wt (u_best (d_put π.1 3 x.toNatClampNeg 1) cnt cp))) ∧ m_R h1 m π 0) ∨ (¬ s_in π x ∧ (∃ z, v9 = some (.int z)) ∧ m_R h1 m π 1)) ∧ s_off h h1 m (m + 21)) s_no) := by
  obtain ⟨I, w, sn, P, tx, rp, hP, -, hr1, hrr⟩ := hR
  have hM := hP.1
  have hT := hP.2.2.2.2.2.2.2
  have hm := hM.1
  have hw := hM.2
  have hoff : s_off h h m (m + 21) := s_off.rf
  have he : d_eq cnt (m_D w) π.1 := by
    obtain ⟨c9, p9, o9, e9⟩ := id hr1
    obtain rfl : c9 = cnt := o9.cn.symm.trans ok.cn
    exact e9
  have okm := he.sy.ok ok
  have hc := okm.1
  have h14 := ok.2.1
  have hcp := okm.2.2.1
  have h100 := ok.2.2.2.1
  refine s_Mt_of rfl (by decide) (by exact Nat.le_of_ble_eq_true rfl) ?_
  refine g_aload_n dX9_lossIfPinned_0 rfl (by rfl) ?_
  refine g_iconst 0 dX9_lossIfPinned_1 (by rfl) ?_
  refine g_putf' dX9_lossIfPinned_2 pX9_59 (by exact hm) (by omega) (by exact Nat.le_of_ble_eq_true rfl) (by rfl) (by rfl) (fun h31 e31 => ?_)
  first | have hm_31 := s_up_off e31 (by omega) hm | have hm_31 := s_up_at e31
  first | have hw_31 := s_up_off e31 (by omega) hw | have hw_31 := s_up_at e31
  have hM := hM.th e31
  have qoff : s_off _ h31 m (m + 1) := s_off.rf.up e31 (by omega)
  have hT := hT.off qoff (by omega)
  have hP := hP.q (qoff.wide (a' := m) (b' := m + 2) (by omega) (by omega)).l2 hM hT
  have hoff := hoff.trans (qoff.wide (a' := m) (b' := m + 21) (by omega) (by omega))
  have hm := hM.1
  have hw := hM.2
  refine g_aload_n dX9_lossIfPinned_5 rfl (by rfl) ?_
  refine g_iload_n dX9_lossIfPinned_6 rfl (by rfl) ?_
  refine g_callV_p (c_X9_noItem hM hn hc h14 x) dX9_lossIfPinned_7 (mX9_noItem) rfl lX9_134 iX9_noItem vX9_noItem (by decide) (by omega) (by exact hm) rfl rfl rfl rfl (Nat.le_of_ble_eq_true rfl) (fun v9 h9 z9 => ?_)
  obtain ⟨rfl, hM, qoff⟩ := z9
  have hT := hT.off qoff (by omega)
  have hP := hP.q (qoff.wide (a' := m) (b' := m + 2) (by omega) (by omega)).l2 hM hT
  have hoff := hoff.trans (qoff.wide (a' := m) (b' := m + 21) (by omega) (by omega))
  have hm := hM.1
  have hw := hM.2
  refine g_if_eq (tgt := 15) dX9_lossIfPinned_10 (by decide) (fun c_10 => ?_) (fun c_10 => ?_)
  · have hin : ¬ x < 0 ∧ x < nI cnt := Classical.byContradiction fun z => by rw [if_neg z] at c_10; exact absurd c_10 (by decide)
    rw [if_pos hin] at hM hP
    have hin : s_in π x := by unfold s_in; rw [ok.1]; exact hin
    obtain ⟨i, rfl, hi⟩ := hin.nat ok
    have hm := hM.1
    have hw := hM.2
    refine g_aload_n dX9_lossIfPinned_15 rfl (by rfl) ?_
    refine g_iload_n dX9_lossIfPinned_16 rfl (by rfl) ?_
    refine g_iconst (nI 1) dX9_lossIfPinned_17 (by rfl) ?_
    refine g_callV_p (c_X9_weightIf hM hn okm hT hi (st := 1) (by omega)) dX9_lossIfPinned_18 (mX9_weightIf) rfl lX9_305 iX9_weightIf vX9_weightIf (by decide) (by omega) (by exact hm) rfl rfl rfl rfl (Nat.le_of_ble_eq_true rfl) (fun v9 h9 z9 => ?_)
    obtain ⟨rfl, hM, hT, qoff⟩ := z9
    have qoff9 : s_off2 _ _ m (m + 2) (m + 18) (m + 21) := fun j a b => qoff j (by omega) b
    have hP := hP.q qoff9 hM hT
    have hoff := hoff.trans (qoff9.one (x := m) (y := m + 21) (by omega) (by omega) (by omega) (by omega))
    have hm := hM.1
    have hw := hM.2
    refine g_istore_n dX9_lossIfPinned_21 rfl (by decide) ?_
    refine g_aload_n dX9_lossIfPinned_22 rfl (by rfl) ?_
    refine g_callV_p (c_X9_best hM hn okm hT) dX9_lossIfPinned_23 (mX9_best) rfl lX9_123 iX9_best vX9_best (by decide) (by omega) (by exact hm) rfl rfl rfl rfl (Nat.le_of_ble_eq_true rfl) (fun v9 h9 z9 => ?_)
    obtain ⟨rfl, hT, qoff⟩ := z9
    have hM := hM.off qoff (by omega)
    have hP := hP.q qoff.r2 hM hT
    have hoff := hoff.trans (qoff.wide (a' := m) (b' := m + 21) (by omega) (by omega))
    have hm := hM.1
    have hw := hM.2
    refine g_iconst (-1) dX9_lossIfPinned_26 (by rfl) ?_
    refine g_icmp_eq (tgt := 35) dX9_lossIfPinned_27 (by decide) (fun c_27 => ?_) (fun c_27 => ?_)
    · have hpp : u_best (m_D w) cnt cp = r_NP := (m_best okm h100).1.mp c_27
      refine g_iconst (-1) dX9_lossIfPinned_35 (by rfl) ?_
      refine g_goto (tgt := 45) dX9_lossIfPinned_36 (by decide) ?_
      refine g_ireturn dX9_lossIfPinned_45 rfl ?_
      first | exact ⟨rfl, Or.inl ⟨hin, by rw [← he.best, nI_clamp (by omega), ← (show u_best (d_put (m_D w) 3 i (nI 1)) cnt cp = u_best (d_put π.1 3 i 1) cnt cp from (he.put (by omega)).best)]; first | (rw [if_pos (Or.inl (by assumption))]; done) | (rw [if_pos (Or.inr (by assumption))]; done) | (rw [if_neg (by intro z; rcases z with z | z <;> contradiction)]; done), ⟨_, _, _, _, _, _, hP, rfl, hr1, hrr⟩⟩, hoff⟩ | exact ⟨rfl, Or.inr ⟨hin, ⟨_, rfl⟩, ⟨_, _, _, _, _, _, hP, rfl, hr1, hrr⟩⟩, hoff⟩
    · have hnp : ¬ u_best (m_D w) cnt cp = r_NP := fun z => c_27 ((m_best okm h100).1.mpr z)
      refine g_iload_n dX9_lossIfPinned_30 rfl (by rfl) ?_
      refine g_iconst (-1) dX9_lossIfPinned_31 (by rfl) ?_
      refine g_icmp_ne (tgt := 39) dX9_lossIfPinned_32 (by decide) (fun c_32 => ?_) (fun c_32 => ?_)
      · have hn2 : ¬ u_best (d_put (m_D w) 3 i (nI 1)) cnt cp = r_NP := fun z => c_32 ((m_wt1 (okm.put3 (st := 1) (by omega)) h100).mpr z)
        refine g_aload_n dX9_lossIfPinned_39 rfl (by rfl) ?_
        refine g_callV_p (c_X9_bestWeightNow hM hn okm hT) dX9_lossIfPinned_40 (mX9_bestWeightNow) rfl lX9_280 iX9_bestWeightNow vX9_bestWeightNow (by decide) (by omega) (by exact hm) rfl rfl rfl rfl (Nat.le_of_ble_eq_true rfl) (fun v9 h9 z9 => ?_)
        obtain ⟨rfl, hT, qoff⟩ := z9
        have hM := hM.off qoff (by omega)
        have hP := hP.q qoff.r2 hM hT
        have hoff := hoff.trans (qoff.wide (a' := m) (b' := m + 21) (by omega) (by omega))
        have hm := hM.1
        have hw := hM.2
        refine g_iload_n dX9_lossIfPinned_43 rfl (by rfl) ?_
        refine g_isub dX9_lossIfPinned_44 ?_
        refine g_ireturn dX9_lossIfPinned_45 rfl ?_
        first | exact ⟨rfl, Or.inl ⟨hin, by rw [← he.best, nI_clamp (by omega), ← (show u_best (d_put (m_D w) 3 i (nI 1)) cnt cp = u_best (d_put π.1 3 i 1) cnt cp from (he.put (by omega)).best)]; first | (rw [if_pos (Or.inl (by assumption))]; done) | (rw [if_pos (Or.inr (by assumption))]; done) | (rw [if_neg (by intro z; rcases z with z | z <;> contradiction)]; done), ⟨_, _, _, _, _, _, hP, rfl, hr1, hrr⟩⟩, hoff⟩ | exact ⟨rfl, Or.inr ⟨hin, ⟨_, rfl⟩, ⟨_, _, _, _, _, _, hP, rfl, hr1, hrr⟩⟩, hoff⟩
      · have hp2 : u_best (d_put (m_D w) 3 i (nI 1)) cnt cp = r_NP := (m_wt1 (okm.put3 (st := 1) (by omega)) h100).mp c_32
        refine g_iconst (-1) dX9_lossIfPinned_35 (by rfl) ?_
        refine g_goto (tgt := 45) dX9_lossIfPinned_36 (by decide) ?_
        refine g_ireturn dX9_lossIfPinned_45 rfl ?_
        first | exact ⟨rfl, Or.inl ⟨hin, by rw [← he.best, nI_clamp (by omega), ← (show u_best (d_put (m_D w) 3 i (nI 1)) cnt cp = u_best (d_put π.1 3 i 1) cnt cp from (he.put (by omega)).best)]; first | (rw [if_pos (Or.inl (by assumption))]; done) | (rw [if_pos (Or.inr (by assumption))]; done) | (rw [if_neg (by intro z; rcases z with z | z <;> contradiction)]; done), ⟨_, _, _, _, _, _, hP, rfl, hr1, hrr⟩⟩, hoff⟩ | exact ⟨rfl, Or.inr ⟨hin, ⟨_, rfl⟩, ⟨_, _, _, _, _, _, hP, rfl, hr1, hrr⟩⟩, hoff⟩
  · have hno : ¬ (¬ x < 0 ∧ x < nI cnt) := fun z => c_10 (by rw [if_pos z])
    rw [if_neg hno] at hM hP
    have hin : ¬ s_in π x := by unfold s_in; rw [ok.1]; exact hno
    have hm := hM.1
    have hw := hM.2
    refine g_iconst 0 dX9_lossIfPinned_13 (by rfl) ?_
    refine g_ireturn dX9_lossIfPinned_14 rfl ?_
    first | exact ⟨rfl, Or.inl ⟨hin, by rw [← he.best, nI_clamp (by omega), ← (show u_best (d_put (m_D w) 3 i (nI 1)) cnt cp = u_best (d_put π.1 3 i 1) cnt cp from (he.put (by omega)).best)]; first | (rw [if_pos (Or.inl (by assumption))]; done) | (rw [if_pos (Or.inr (by assumption))]; done) | (rw [if_neg (by intro z; rcases z with z | z <;> contradiction)]; done), ⟨_, _, _, _, _, _, hP, rfl, hr1, hrr⟩⟩, hoff⟩ | exact ⟨rfl, Or.inr ⟨hin, ⟨_, rfl⟩, ⟨_, _, _, _, _, _, hP, rfl, hr1, hrr⟩⟩, hoff⟩

theorem c_M_weightAt {h : s_H} {n m : Nat} {π : s_Pl} {t : Int32} (hR : m_R h m π t) (hn : m + 21 ≤ n) {cnt cp : Nat} (ok : d_ok π.1 cnt cp) (x : Int32) : s_Mt TX9_weightAt 0 0 [.ref m, .int x] h n (s_rp n (fun v9 h1 => ((¬ (x < 0 ∨ 100 < x) ∧ v9 = some (.int (r_wt (u_best π.1 cnt x.toNatClampNeg))) ∧ m_R h1 m π 0) ∨ (¬ ¬ (x < 0 ∨ 100 < x) ∧ (∃ z, v9 = some (.int z)) ∧ m_R h1 m π 1)) ∧ s_off h h1 m (m + 21)) s_no) := by
  obtain ⟨I, w, sn, P, tx, rp, hP, -, hr1, hrr⟩ := hR
  have hM := hP.1
  have hT := hP.2.2.2.2.2.2.2
  have hm := hM.1
  have hw := hM.2
  have hoff : s_off h h m (m + 21) := s_off.rf
  have he : d_eq cnt (m_D w) π.1 := by
    obtain ⟨c9, p9, o9, e9⟩ := id hr1
    obtain rfl : c9 = cnt := o9.cn.symm.trans ok.cn
    exact e9
  have okm := he.sy.ok ok
  have hc := okm.1
  have h14 := ok.2.1
  have hcp := okm.2.2.1
  have h100 := ok.2.2.2.1
  refine s_Mt_of rfl (by decide) (by exact Nat.le_of_ble_eq_true rfl) ?_
  refine g_aload_n dX9_weightAt_0 rfl (by rfl) ?_
  refine g_iconst 0 dX9_weightAt_1 (by rfl) ?_
  refine g_putf' dX9_weightAt_2 pX9_59 (by exact hm) (by omega) (by exact Nat.le_of_ble_eq_true rfl) (by rfl) (by rfl) (fun h31 e31 => ?_)
  first | have hm_31 := s_up_off e31 (by omega) hm | have hm_31 := s_up_at e31
  first | have hw_31 := s_up_off e31 (by omega) hw | have hw_31 := s_up_at e31
  have hM := hM.th e31
  have qoff : s_off _ h31 m (m + 1) := s_off.rf.up e31 (by omega)
  have hT := hT.off qoff (by omega)
  have hP := hP.q (qoff.wide (a' := m) (b' := m + 2) (by omega) (by omega)).l2 hM hT
  have hoff := hoff.trans (qoff.wide (a' := m) (b' := m + 21) (by omega) (by omega))
  have hm := hM.1
  have hw := hM.2
  refine g_aload_n dX9_weightAt_5 rfl (by rfl) ?_
  refine g_iload_n dX9_weightAt_6 rfl (by rfl) ?_
  refine g_iconst 0 dX9_weightAt_7 (by rfl) ?_
  refine g_bipush 100 dX9_weightAt_8 (by rfl) ?_
  refine g_iconst 1 dX9_weightAt_10 (by rfl) ?_
  refine g_callV_p (c_X9_outside hM hn x 0 100 1) dX9_weightAt_11 (mX9_outside) rfl lX9_69 iX9_outside vX9_outside (by decide) (by omega) (by exact hm) rfl rfl rfl rfl (Nat.le_of_ble_eq_true rfl) (fun v9 h9 z9 => ?_)
  obtain ⟨rfl, hM, qoff⟩ := z9
  have hT := hT.off qoff (by omega)
  have hP := hP.q (qoff.wide (a' := m) (b' := m + 2) (by omega) (by omega)).l2 hM hT
  have hoff := hoff.trans (qoff.wide (a' := m) (b' := m + 21) (by omega) (by omega))
  have hm := hM.1
  have hw := hM.2
  refine g_if_eq (tgt := 21) dX9_weightAt_14 (by decide) (fun c_14 => ?_) (fun c_14 => ?_)
  · have hin : ¬ (x < 0 ∨ 100 < x) := fun z => by rw [if_pos z] at c_14; exact absurd c_14 (by decide)
    rw [if_neg hin] at hM hP
    have hm := hM.1
    have hw := hM.2
    obtain ⟨c, hc9, rfl⟩ := nI_of (fun z => hin (Or.inl z))
    have hc100 : c ≤ 100 := Nat.le_of_not_lt fun z => hin (Or.inr (nI_lt z hc9))
    refine g_aload_n dX9_weightAt_21 rfl (by rfl) ?_
    refine g_iload_n dX9_weightAt_22 rfl (by rfl) ?_
    refine g_callV_p (c_X9_weightFor hM hn okm hT hc100) dX9_weightAt_23 (mX9_weightFor) rfl lX9_114 iX9_weightFor vX9_weightFor (by decide) (by omega) (by exact hm) rfl rfl rfl rfl (Nat.le_of_ble_eq_true rfl) (fun v9 h9 z9 => ?_)
    obtain ⟨rfl, hT, qoff⟩ := z9
    have hM := hM.off qoff (by omega)
    have hP := hP.q qoff.r2 hM hT
    have hoff := hoff.trans (qoff.wide (a' := m) (b' := m + 21) (by omega) (by omega))
    have hm := hM.1
    have hw := hM.2
    refine g_ireturn dX9_weightAt_26 rfl ?_
    first | exact ⟨rfl, Or.inl ⟨hin, by rw [he.best, nI_clamp (by omega)], ⟨_, _, _, _, _, _, hP, rfl, hr1, hrr⟩⟩, hoff⟩ | exact ⟨rfl, Or.inr ⟨hin, ⟨_, rfl⟩, ⟨_, _, _, _, _, _, hP, rfl, hr1, hrr⟩⟩, hoff⟩
  · have hno : x < 0 ∨ 100 < x := Classical.byContradiction fun z => c_14 (by rw [if_neg z])
    rw [if_pos hno] at hM hP
    have hin : ¬ ¬ (x < 0 ∨ 100 < x) := fun z => z hno
    have hm := hM.1
    have hw := hM.2
    refine g_iconst 0 dX9_weightAt_17 (by rfl) ?_
    refine g_goto (tgt := 26) dX9_weightAt_18 (by decide) ?_
    refine g_ireturn dX9_weightAt_26 rfl ?_
    first | exact ⟨rfl, Or.inl ⟨hin, by rw [he.best, nI_clamp (by omega)], ⟨_, _, _, _, _, _, hP, rfl, hr1, hrr⟩⟩, hoff⟩ | exact ⟨rfl, Or.inr ⟨hin, ⟨_, rfl⟩, ⟨_, _, _, _, _, _, hP, rfl, hr1, hrr⟩⟩, hoff⟩

theorem c_M_planAt {h : s_H} {n m : Nat} {π : s_Pl} {t : Int32} (hR : m_R h m π t) (hn : m + 21 ≤ n) {cnt cp : Nat} (ok : d_ok π.1 cnt cp) (x : Int32) : s_Mt TX9_planAt 0 0 [.ref m, .int x] h n (s_rp n (fun v9 h1 => ((¬ (x < 0 ∨ 100 < x) ∧ v9 = some (.int (r_st (u_best π.1 cnt x.toNatClampNeg))) ∧ m_R h1 m π 0) ∨ (¬ ¬ (x < 0 ∨ 100 < x) ∧ (∃ z, v9 = some (.int z)) ∧ m_R h1 m π 1)) ∧ s_off h h1 m (m + 21)) s_no) := by
  obtain ⟨I, w, sn, P, tx, rp, hP, -, hr1, hrr⟩ := hR
  have hM := hP.1
  have hT := hP.2.2.2.2.2.2.2
  have hm := hM.1
  have hw := hM.2
  have hoff : s_off h h m (m + 21) := s_off.rf
  have he : d_eq cnt (m_D w) π.1 := by
    obtain ⟨c9, p9, o9, e9⟩ := id hr1
    obtain rfl : c9 = cnt := o9.cn.symm.trans ok.cn
    exact e9
  have okm := he.sy.ok ok
  have hc := okm.1
  have h14 := ok.2.1
  have hcp := okm.2.2.1
  have h100 := ok.2.2.2.1
  refine s_Mt_of rfl (by decide) (by exact Nat.le_of_ble_eq_true rfl) ?_
  refine g_aload_n dX9_planAt_0 rfl (by rfl) ?_
  refine g_iconst 0 dX9_planAt_1 (by rfl) ?_
  refine g_putf' dX9_planAt_2 pX9_59 (by exact hm) (by omega) (by exact Nat.le_of_ble_eq_true rfl) (by rfl) (by rfl) (fun h31 e31 => ?_)
  first | have hm_31 := s_up_off e31 (by omega) hm | have hm_31 := s_up_at e31
  first | have hw_31 := s_up_off e31 (by omega) hw | have hw_31 := s_up_at e31
  have hM := hM.th e31
  have qoff : s_off _ h31 m (m + 1) := s_off.rf.up e31 (by omega)
  have hT := hT.off qoff (by omega)
  have hP := hP.q (qoff.wide (a' := m) (b' := m + 2) (by omega) (by omega)).l2 hM hT
  have hoff := hoff.trans (qoff.wide (a' := m) (b' := m + 21) (by omega) (by omega))
  have hm := hM.1
  have hw := hM.2
  refine g_aload_n dX9_planAt_5 rfl (by rfl) ?_
  refine g_iload_n dX9_planAt_6 rfl (by rfl) ?_
  refine g_iconst 0 dX9_planAt_7 (by rfl) ?_
  refine g_bipush 100 dX9_planAt_8 (by rfl) ?_
  refine g_iconst 1 dX9_planAt_10 (by rfl) ?_
  refine g_callV_p (c_X9_outside hM hn x 0 100 1) dX9_planAt_11 (mX9_outside) rfl lX9_69 iX9_outside vX9_outside (by decide) (by omega) (by exact hm) rfl rfl rfl rfl (Nat.le_of_ble_eq_true rfl) (fun v9 h9 z9 => ?_)
  obtain ⟨rfl, hM, qoff⟩ := z9
  have hT := hT.off qoff (by omega)
  have hP := hP.q (qoff.wide (a' := m) (b' := m + 2) (by omega) (by omega)).l2 hM hT
  have hoff := hoff.trans (qoff.wide (a' := m) (b' := m + 21) (by omega) (by omega))
  have hm := hM.1
  have hw := hM.2
  refine g_if_eq (tgt := 21) dX9_planAt_14 (by decide) (fun c_14 => ?_) (fun c_14 => ?_)
  · have hin : ¬ (x < 0 ∨ 100 < x) := fun z => by rw [if_pos z] at c_14; exact absurd c_14 (by decide)
    rw [if_neg hin] at hM hP
    have hm := hM.1
    have hw := hM.2
    obtain ⟨c, hc9, rfl⟩ := nI_of (fun z => hin (Or.inl z))
    have hc100 : c ≤ 100 := Nat.le_of_not_lt fun z => hin (Or.inr (nI_lt z hc9))
    refine g_aload_n dX9_planAt_21 rfl (by rfl) ?_
    refine g_iload_n dX9_planAt_22 rfl (by rfl) ?_
    refine g_callV_p (c_X9_planFor hM hn okm hT hc100) dX9_planAt_23 (mX9_planFor) rfl lX9_108 iX9_planFor vX9_planFor (by decide) (by omega) (by exact hm) rfl rfl rfl rfl (Nat.le_of_ble_eq_true rfl) (fun v9 h9 z9 => ?_)
    obtain ⟨rfl, hT, qoff⟩ := z9
    have hM := hM.off qoff (by omega)
    have hP := hP.q qoff.r2 hM hT
    have hoff := hoff.trans (qoff.wide (a' := m) (b' := m + 21) (by omega) (by omega))
    have hm := hM.1
    have hw := hM.2
    refine g_ireturn dX9_planAt_26 rfl ?_
    first | exact ⟨rfl, Or.inl ⟨hin, by rw [he.best, nI_clamp (by omega)], ⟨_, _, _, _, _, _, hP, rfl, hr1, hrr⟩⟩, hoff⟩ | exact ⟨rfl, Or.inr ⟨hin, ⟨_, rfl⟩, ⟨_, _, _, _, _, _, hP, rfl, hr1, hrr⟩⟩, hoff⟩
  · have hno : x < 0 ∨ 100 < x := Classical.byContradiction fun z => c_14 (by rw [if_neg z])
    rw [if_pos hno] at hM hP
    have hin : ¬ ¬ (x < 0 ∨ 100 < x) := fun z => z hno
    have hm := hM.1
    have hw := hM.2
    refine g_iconst 0 dX9_planAt_17 (by rfl) ?_
    refine g_goto (tgt := 26) dX9_planAt_18 (by decide) ?_
    refine g_ireturn dX9_planAt_26 rfl ?_
    first | exact ⟨rfl, Or.inl ⟨hin, by rw [he.best, nI_clamp (by omega)], ⟨_, _, _, _, _, _, hP, rfl, hr1, hrr⟩⟩, hoff⟩ | exact ⟨rfl, Or.inr ⟨hin, ⟨_, rfl⟩, ⟨_, _, _, _, _, _, hP, rfl, hr1, hrr⟩⟩, hoff⟩

theorem c_M_cell {h : s_H} {n m : Nat} {π : s_Pl} {t : Int32} (hR : m_R h m π t) (hn : m + 21 ≤ n) {cnt cp : Nat} (ok : d_ok π.1 cnt cp) (x y : Int32) : s_Mt TX9_cell 0 0 [.ref m, .int x, .int y] h n (s_rp n (fun v9 h1 => ((¬ (x < 0 ∨ s_bc (d_set π.1 0 cnt) < x ∨ y < 0 ∨ 100 < y) ∧ v9 = some (.int (u_cell π.1 cnt x.toNatClampNeg y.toNatClampNeg)) ∧ m_R h1 m π 0) ∨ (¬ ¬ (x < 0 ∨ s_bc (d_set π.1 0 cnt) < x ∨ y < 0 ∨ 100 < y) ∧ (∃ z, v9 = some (.int z)) ∧ m_R h1 m π 1)) ∧ s_off h h1 m (m + 21)) s_no) := by
  obtain ⟨I, w, sn, P, tx, rp, hP, -, hr1, hrr⟩ := hR
  have hM := hP.1
  have hT := hP.2.2.2.2.2.2.2
  have hm := hM.1
  have hw := hM.2
  have hoff : s_off h h m (m + 21) := s_off.rf
  have he : d_eq cnt (m_D w) π.1 := by
    obtain ⟨c9, p9, o9, e9⟩ := id hr1
    obtain rfl : c9 = cnt := o9.cn.symm.trans ok.cn
    exact e9
  have okm := he.sy.ok ok
  have hc := okm.1
  have h14 := ok.2.1
  have hcp := okm.2.2.1
  have h100 := ok.2.2.2.1
  refine s_Mt_of rfl (by decide) (by exact Nat.le_of_ble_eq_true rfl) ?_
  refine g_aload_n dX9_cell_0 rfl (by rfl) ?_
  refine g_iconst 0 dX9_cell_1 (by rfl) ?_
  refine g_putf' dX9_cell_2 pX9_59 (by exact hm) (by omega) (by exact Nat.le_of_ble_eq_true rfl) (by rfl) (by rfl) (fun h31 e31 => ?_)
  first | have hm_31 := s_up_off e31 (by omega) hm | have hm_31 := s_up_at e31
  first | have hw_31 := s_up_off e31 (by omega) hw | have hw_31 := s_up_at e31
  have hM := hM.th e31
  have qoff : s_off _ h31 m (m + 1) := s_off.rf.up e31 (by omega)
  have hT := hT.off qoff (by omega)
  have hP := hP.q (qoff.wide (a' := m) (b' := m + 2) (by omega) (by omega)).l2 hM hT
  have hoff := hoff.trans (qoff.wide (a' := m) (b' := m + 21) (by omega) (by omega))
  have hm := hM.1
  have hw := hM.2
  refine g_aload_n dX9_cell_5 rfl (by rfl) ?_
  refine g_iload_n dX9_cell_6 rfl (by rfl) ?_
  refine g_iload_n dX9_cell_7 rfl (by rfl) ?_
  refine g_iconst 0 dX9_cell_8 (by rfl) ?_
  refine g_callV_p (c_X9_noCell hM hn hc h14 x y 0) dX9_cell_9 (mX9_noCell) rfl lX9_289 iX9_noCell vX9_noCell (by decide) (by omega) (by exact hm) rfl rfl rfl rfl (Nat.le_of_ble_eq_true rfl) (fun v9 h9 z9 => ?_)
  obtain ⟨rfl, hM, qoff⟩ := z9
  have hT := hT.off qoff (by omega)
  have hP := hP.q (qoff.wide (a' := m) (b' := m + 2) (by omega) (by omega)).l2 hM hT
  have hoff := hoff.trans (qoff.wide (a' := m) (b' := m + 21) (by omega) (by omega))
  have hm := hM.1
  have hw := hM.2
  refine g_if_eq (tgt := 19) dX9_cell_12 (by decide) (fun c_12 => ?_) (fun c_12 => ?_)
  · have hin : ¬ (x < 0 ∨ s_bc (d_set (m_D w) 0 cnt) < x ∨ y < 0 ∨ 100 < y) := fun z => by rw [if_pos z] at c_12; exact absurd c_12 (by decide)
    rw [if_neg hin] at hM hP
    rw [show d_set (m_D w) 0 cnt = d_set π.1 0 cnt from he.set'] at hin
    obtain ⟨r, hr9, rfl⟩ := nI_of (x := x) (fun z => hin (Or.inl (by first | exact z | (rw [Int32.lt_iff_toInt_lt] at z ⊢; exact Int.lt_trans z (by decide)))))
    obtain ⟨c, hc9, rfl⟩ := nI_of (x := y) (fun z => hin (Or.inr (Or.inr (Or.inl z))))
    have hc100 : c ≤ 100 := Nat.le_of_not_lt fun z => hin (Or.inr (Or.inr (Or.inr (nI_lt z hc9))))
    have hnf := u_nf_le (σ := π.1) cnt
    have hr14 : r ≤ u_nf π.1 cnt := Nat.le_of_not_lt fun z => hin (Or.inr (Or.inl (by rw [s_bc_free (by omega)]; exact nI_lt z hr9)))
    have hm := hM.1
    have hw := hM.2
    refine g_aload_n dX9_cell_19 rfl (by rfl) ?_
    refine g_iload_n dX9_cell_20 rfl (by rfl) ?_
    refine g_iload_n dX9_cell_21 rfl (by rfl) ?_
    refine g_callV_p (c_X9_cellOf hM hn okm hT (R := r) (by omega) hc100) dX9_cell_22 (mX9_cellOf) rfl lX9_293 iX9_cellOf vX9_cellOf (by decide) (by omega) (by exact hm) rfl rfl rfl rfl (Nat.le_of_ble_eq_true rfl) (fun v9 h9 z9 => ?_)
    obtain ⟨rfl, hT, qoff⟩ := z9
    have hM := hM.off qoff (by omega)
    have hP := hP.q qoff.r2 hM hT
    have hoff := hoff.trans (qoff.wide (a' := m) (b' := m + 21) (by omega) (by omega))
    have hm := hM.1
    have hw := hM.2
    refine g_ireturn dX9_cell_25 rfl ?_
    first | exact ⟨rfl, Or.inl ⟨hin, by rw [he.cell, nI_clamp (by omega), nI_clamp (by omega)], ⟨_, _, _, _, _, _, hP, rfl, hr1, hrr⟩⟩, hoff⟩ | exact ⟨rfl, Or.inr ⟨hin, ⟨_, rfl⟩, ⟨_, _, _, _, _, _, hP, rfl, hr1, hrr⟩⟩, hoff⟩
  · have hno : (x < 0 ∨ s_bc (d_set (m_D w) 0 cnt) < x ∨ y < 0 ∨ 100 < y) := Classical.byContradiction fun z => c_12 (by rw [if_neg z])
    rw [if_pos hno] at hM hP
    have hin : ¬ ¬ (x < 0 ∨ s_bc (d_set π.1 0 cnt) < x ∨ y < 0 ∨ 100 < y) := fun z => z (by rw [← he.set']; exact hno)
    have hm := hM.1
    have hw := hM.2
    refine g_iconst 0 dX9_cell_15 (by rfl) ?_
    refine g_goto (tgt := 25) dX9_cell_16 (by decide) ?_
    refine g_ireturn dX9_cell_25 rfl ?_
    first | exact ⟨rfl, Or.inl ⟨hin, by rw [he.cell, nI_clamp (by omega), nI_clamp (by omega)], ⟨_, _, _, _, _, _, hP, rfl, hr1, hrr⟩⟩, hoff⟩ | exact ⟨rfl, Or.inr ⟨hin, ⟨_, rfl⟩, ⟨_, _, _, _, _, _, hP, rfl, hr1, hrr⟩⟩, hoff⟩

theorem c_M_isRaised {h : s_H} {n m : Nat} {π : s_Pl} {t : Int32} (hR : m_R h m π t) (hn : m + 21 ≤ n) {cnt cp : Nat} (ok : d_ok π.1 cnt cp) (x y : Int32) : s_Mt TX9_isRaised 0 0 [.ref m, .int x, .int y] h n (s_rp n (fun v9 h1 => ((¬ (x < 1 ∨ s_bc (d_set π.1 0 cnt) < x ∨ y < 0 ∨ 100 < y) ∧ v9 = some (.int (if u_cell π.1 cnt (x.toNatClampNeg - 1) y.toNatClampNeg < u_cell π.1 cnt x.toNatClampNeg y.toNatClampNeg then 1 else 0)) ∧ m_R h1 m π 0) ∨ (¬ ¬ (x < 1 ∨ s_bc (d_set π.1 0 cnt) < x ∨ y < 0 ∨ 100 < y) ∧ (∃ z, v9 = some (.int z)) ∧ m_R h1 m π 1)) ∧ s_off h h1 m (m + 21)) s_no) := by
  obtain ⟨I, w, sn, P, tx, rp, hP, -, hr1, hrr⟩ := hR
  have hM := hP.1
  have hT := hP.2.2.2.2.2.2.2
  have hm := hM.1
  have hw := hM.2
  have hoff : s_off h h m (m + 21) := s_off.rf
  have he : d_eq cnt (m_D w) π.1 := by
    obtain ⟨c9, p9, o9, e9⟩ := id hr1
    obtain rfl : c9 = cnt := o9.cn.symm.trans ok.cn
    exact e9
  have okm := he.sy.ok ok
  have hc := okm.1
  have h14 := ok.2.1
  have hcp := okm.2.2.1
  have h100 := ok.2.2.2.1
  refine s_Mt_of rfl (by decide) (by exact Nat.le_of_ble_eq_true rfl) ?_
  refine g_aload_n dX9_isRaised_0 rfl (by rfl) ?_
  refine g_iconst 0 dX9_isRaised_1 (by rfl) ?_
  refine g_putf' dX9_isRaised_2 pX9_59 (by exact hm) (by omega) (by exact Nat.le_of_ble_eq_true rfl) (by rfl) (by rfl) (fun h31 e31 => ?_)
  first | have hm_31 := s_up_off e31 (by omega) hm | have hm_31 := s_up_at e31
  first | have hw_31 := s_up_off e31 (by omega) hw | have hw_31 := s_up_at e31
  have hM := hM.th e31
  have qoff : s_off _ h31 m (m + 1) := s_off.rf.up e31 (by omega)
  have hT := hT.off qoff (by omega)
  have hP := hP.q (qoff.wide (a' := m) (b' := m + 2) (by omega) (by omega)).l2 hM hT
  have hoff := hoff.trans (qoff.wide (a' := m) (b' := m + 21) (by omega) (by omega))
  have hm := hM.1
  have hw := hM.2
  refine g_aload_n dX9_isRaised_5 rfl (by rfl) ?_
  refine g_iload_n dX9_isRaised_6 rfl (by rfl) ?_
  refine g_iload_n dX9_isRaised_7 rfl (by rfl) ?_
  refine g_iconst 1 dX9_isRaised_8 (by rfl) ?_
  refine g_callV_p (c_X9_noCell hM hn hc h14 x y 1) dX9_isRaised_9 (mX9_noCell) rfl lX9_289 iX9_noCell vX9_noCell (by decide) (by omega) (by exact hm) rfl rfl rfl rfl (Nat.le_of_ble_eq_true rfl) (fun v9 h9 z9 => ?_)
  obtain ⟨rfl, hM, qoff⟩ := z9
  have hT := hT.off qoff (by omega)
  have hP := hP.q (qoff.wide (a' := m) (b' := m + 2) (by omega) (by omega)).l2 hM hT
  have hoff := hoff.trans (qoff.wide (a' := m) (b' := m + 21) (by omega) (by omega))
  have hm := hM.1
  have hw := hM.2
  refine g_if_ne (tgt := 36) dX9_isRaised_12 (by decide) (fun c_12 => ?_) (fun c_12 => ?_)
  · have hno : (x < 1 ∨ s_bc (d_set (m_D w) 0 cnt) < x ∨ y < 0 ∨ 100 < y) := Classical.byContradiction fun z => c_12 (by rw [if_neg z])
    rw [if_pos hno] at hM hP
    have hin : ¬ ¬ (x < 1 ∨ s_bc (d_set π.1 0 cnt) < x ∨ y < 0 ∨ 100 < y) := fun z => z (by rw [← he.set']; exact hno)
    have hm := hM.1
    have hw := hM.2
    refine g_iconst 0 dX9_isRaised_36 (by rfl) ?_
    refine g_zreturn dX9_isRaised_37 rfl (by decide) ?_
    first | exact ⟨rfl, Or.inl ⟨hin, by rw [nI_clamp (by omega), nI_clamp (by omega), if_pos hlt], ⟨_, _, _, _, _, _, hP, rfl, hr1, hrr⟩⟩, hoff⟩ | exact ⟨rfl, Or.inl ⟨hin, by rw [nI_clamp (by omega), nI_clamp (by omega), if_neg hle], ⟨_, _, _, _, _, _, hP, rfl, hr1, hrr⟩⟩, hoff⟩ | exact ⟨rfl, Or.inr ⟨hin, ⟨_, rfl⟩, ⟨_, _, _, _, _, _, hP, rfl, hr1, hrr⟩⟩, hoff⟩
  · have hin : ¬ (x < 1 ∨ s_bc (d_set (m_D w) 0 cnt) < x ∨ y < 0 ∨ 100 < y) := fun z => by rw [if_pos z] at c_12; exact absurd c_12 (by decide)
    rw [if_neg hin] at hM hP
    rw [show d_set (m_D w) 0 cnt = d_set π.1 0 cnt from he.set'] at hin
    obtain ⟨r, hr9, rfl⟩ := nI_of (x := x) (fun z => hin (Or.inl (by first | exact z | (rw [Int32.lt_iff_toInt_lt] at z ⊢; exact Int.lt_trans z (by decide)))))
    obtain ⟨c, hc9, rfl⟩ := nI_of (x := y) (fun z => hin (Or.inr (Or.inr (Or.inl z))))
    have hc100 : c ≤ 100 := Nat.le_of_not_lt fun z => hin (Or.inr (Or.inr (Or.inr (nI_lt z hc9))))
    have hnf := u_nf_le (σ := π.1) cnt
    have hr14 : r ≤ u_nf π.1 cnt := Nat.le_of_not_lt fun z => hin (Or.inr (Or.inl (by rw [s_bc_free (by omega)]; exact nI_lt z hr9)))
    have hm := hM.1
    have hw := hM.2
    refine g_aload_n dX9_isRaised_15 rfl (by rfl) ?_
    refine g_iload_n dX9_isRaised_16 rfl (by rfl) ?_
    refine g_iload_n dX9_isRaised_17 rfl (by rfl) ?_
    refine g_callV_p (c_X9_cellOf hM hn okm hT (R := r) (by omega) hc100) dX9_isRaised_18 (mX9_cellOf) rfl lX9_293 iX9_cellOf vX9_cellOf (by decide) (by omega) (by exact hm) rfl rfl rfl rfl (Nat.le_of_ble_eq_true rfl) (fun v9 h9 z9 => ?_)
    obtain ⟨rfl, hT, qoff⟩ := z9
    have hM := hM.off qoff (by omega)
    have hP := hP.q qoff.r2 hM hT
    have hoff := hoff.trans (qoff.wide (a' := m) (b' := m + 21) (by omega) (by omega))
    have hm := hM.1
    have hw := hM.2
    refine g_aload_n dX9_isRaised_21 rfl (by rfl) ?_
    refine g_iload_n dX9_isRaised_22 rfl (by rfl) ?_
    refine g_iconst 1 dX9_isRaised_23 (by rfl) ?_
    refine g_isub dX9_isRaised_24 ?_
    rw [show (nI r - 1 : Int32) = nI (r - 1) from nI_sble (a := r) (b := 1) (by
      have : ¬ nI r < nI 1 := fun z => hin (Or.inl z)
      refine Nat.le_of_not_lt fun z => this (nI_lt (by omega) (by omega)))]
    refine g_iload_n dX9_isRaised_25 rfl (by rfl) ?_
    refine g_callV_p (c_X9_cellOf hM hn okm hT (R := r - 1) (by omega) hc100) dX9_isRaised_26 (mX9_cellOf) rfl lX9_293 iX9_cellOf vX9_cellOf (by decide) (by omega) (by exact hm) rfl rfl rfl rfl (Nat.le_of_ble_eq_true rfl) (fun v9 h9 z9 => ?_)
    obtain ⟨rfl, hT, qoff⟩ := z9
    have hM := hM.off qoff (by omega)
    have hP := hP.q qoff.r2 hM hT
    have hoff := hoff.trans (qoff.wide (a' := m) (b' := m + 21) (by omega) (by omega))
    have hm := hM.1
    have hw := hM.2
    refine g_icmp_le (tgt := 36) dX9_isRaised_29 (by decide) (fun c_29 => ?_) (fun c_29 => ?_)
    · have hle : ¬ u_cell π.1 cnt (r - 1) c < u_cell π.1 cnt r c := fun z => absurd c_29 (Int32.not_le.mpr (by rw [he.cell, he.cell]; exact z))
      refine g_iconst 0 dX9_isRaised_36 (by rfl) ?_
      refine g_zreturn dX9_isRaised_37 rfl (by decide) ?_
      first | exact ⟨rfl, Or.inl ⟨hin, by rw [nI_clamp (by omega), nI_clamp (by omega), if_pos hlt], ⟨_, _, _, _, _, _, hP, rfl, hr1, hrr⟩⟩, hoff⟩ | exact ⟨rfl, Or.inl ⟨hin, by rw [nI_clamp (by omega), nI_clamp (by omega), if_neg hle], ⟨_, _, _, _, _, _, hP, rfl, hr1, hrr⟩⟩, hoff⟩ | exact ⟨rfl, Or.inr ⟨hin, ⟨_, rfl⟩, ⟨_, _, _, _, _, _, hP, rfl, hr1, hrr⟩⟩, hoff⟩
    · have hlt : u_cell π.1 cnt (r - 1) c < u_cell π.1 cnt r c := by rw [he.cell, he.cell] at c_29; exact Int32.not_le.mp c_29
      refine g_iconst 1 dX9_isRaised_32 (by rfl) ?_
      refine g_goto (tgt := 37) dX9_isRaised_33 (by decide) ?_
      refine g_zreturn dX9_isRaised_37 rfl (by decide) ?_
      first | exact ⟨rfl, Or.inl ⟨hin, by rw [nI_clamp (by omega), nI_clamp (by omega), if_pos hlt], ⟨_, _, _, _, _, _, hP, rfl, hr1, hrr⟩⟩, hoff⟩ | exact ⟨rfl, Or.inl ⟨hin, by rw [nI_clamp (by omega), nI_clamp (by omega), if_neg hle], ⟨_, _, _, _, _, _, hP, rfl, hr1, hrr⟩⟩, hoff⟩ | exact ⟨rfl, Or.inr ⟨hin, ⟨_, rfl⟩, ⟨_, _, _, _, _, _, hP, rfl, hr1, hrr⟩⟩, hoff⟩

theorem c_M_reportByte {h : s_H} {n m : Nat} {π : s_Pl} {t : Int32} (hR : m_R h m π t) (hn : m + 21 ≤ n) (x : Int32) : s_Mt TX9_reportByte 0 0 [.ref m, .int x] h n (s_rp n (fun v9 h1 => v9 = some (.int (p_at π.2.2.2.2.2.2.2.2.2 x)) ∧ m_R h1 m π 0 ∧ s_off h h1 m (m + 21)) s_no) := by
  obtain ⟨I, w, sn, P, tx, rp, hP, -, hr1, hrr⟩ := hR
  have hM := hP.1
  have hT := hP.2.2.2.2.2.2.2
  have hm := hM.1
  have hw := hM.2
  have hoff : s_off h h m (m + 21) := s_off.rf
  refine s_Mt_of rfl (by decide) (by exact Nat.le_of_ble_eq_true rfl) ?_
  refine g_aload_n dX9_reportByte_0 rfl (by rfl) ?_
  refine g_iconst 0 dX9_reportByte_1 (by rfl) ?_
  refine g_putf' dX9_reportByte_2 pX9_59 (by exact hm) (by omega) (by exact Nat.le_of_ble_eq_true rfl) (by rfl) (by rfl) (fun h31 e31 => ?_)
  first | have hm_31 := s_up_off e31 (by omega) hm | have hm_31 := s_up_at e31
  first | have hw_31 := s_up_off e31 (by omega) hw | have hw_31 := s_up_at e31
  first | have hrp_31 := s_up_off e31 (by omega) hrp | have hrp_31 := s_up_at e31
  have hM := hM.th e31
  have qoff : s_off _ h31 m (m + 1) := s_off.rf.up e31 (by omega)
  have hT := hT.off qoff (by omega)
  have hP := hP.q (qoff.wide (a' := m) (b' := m + 2) (by omega) (by omega)).l2 hM hT
  have hoff := hoff.trans (qoff.wide (a' := m) (b' := m + 21) (by omega) (by omega))
  have hm := hM.1
  have hw := hM.2
  have hrp := hP.2.2.2.2.2.2.1
  refine g_iload_n dX9_reportByte_5 rfl (by rfl) ?_
  refine g_if_lt (tgt := 17) dX9_reportByte_6 (by decide) (fun c_6 => ?_) (fun c_6 => ?_)
  · have hb : x < 0 ∨ nI π.2.2.2.2.2.2.2.2.2.length ≤ x := Or.inl c_6
    refine g_iconst (-1) dX9_reportByte_17 (by rfl) ?_
    refine g_goto (tgt := 27) dX9_reportByte_18 (by decide) ?_
    refine g_ireturn dX9_reportByte_27 rfl ?_
    first | exact ⟨rfl, by unfold p_at; rw [if_pos hb], ⟨_, _, _, _, _, _, hP, rfl, hr1, hrr⟩, hoff⟩ | exact ⟨rfl, by unfold p_at; rw [if_neg hb, nI_clamp hk]; exact congrArg (fun x => some (Value.int x)) (hrr.2.2.2.2.2.2 k hkl), ⟨_, _, _, _, _, _, hP, rfl, hr1, hrr⟩, hoff⟩
  · refine g_iload_n dX9_reportByte_9 rfl (by rfl) ?_
    refine g_aload_n dX9_reportByte_10 rfl (by rfl) ?_
    refine g_getf dX9_reportByte_11 fX9_312 (by exact hm) (by omega) (by rfl) ?_
    rw [show upd I 0 0 11 = nI π.2.2.2.2.2.2.2.2.2.length from hrr.2.2.2.2.2.1]
    refine g_icmp_lt (tgt := 21) dX9_reportByte_14 (by decide) (fun c_14 => ?_) (fun c_14 => ?_)
    · obtain ⟨k, hk, rfl⟩ := nI_of c_6
      have hkl : k < π.2.2.2.2.2.2.2.2.2.length := (nI_lti hk (by have := hrr.2.2.2.2.1; omega)).mp c_14
      have hb : ¬ (nI k < 0 ∨ nI π.2.2.2.2.2.2.2.2.2.length ≤ nI k) := fun z => z.elim c_6 (fun z => absurd c_14 (Int32.not_lt.mpr z))
      refine g_aload_n dX9_reportByte_21 rfl (by rfl) ?_
      refine g_getf dX9_reportByte_22 fX9_30 (by exact hm) (by omega) (by rfl) ?_
      refine g_iload_n dX9_reportByte_25 rfl (by rfl) ?_
      refine g_bald dX9_reportByte_26 (by exact hrp) (by omega) (by rfl) (by have := hrr.2.2.2.2.1; omega) (by omega) ?_
      refine g_ireturn dX9_reportByte_27 rfl ?_
      first | exact ⟨rfl, by unfold p_at; rw [if_pos hb], ⟨_, _, _, _, _, _, hP, rfl, hr1, hrr⟩, hoff⟩ | exact ⟨rfl, by unfold p_at; rw [if_neg hb, nI_clamp hk]; exact congrArg (fun x => some (Value.int x)) (hrr.2.2.2.2.2.2 k hkl), ⟨_, _, _, _, _, _, hP, rfl, hr1, hrr⟩, hoff⟩
    · have hb : x < 0 ∨ nI π.2.2.2.2.2.2.2.2.2.length ≤ x := Or.inr (Int32.not_lt.mp c_14)
      refine g_iconst (-1) dX9_reportByte_17 (by rfl) ?_
      refine g_goto (tgt := 27) dX9_reportByte_18 (by decide) ?_
      refine g_ireturn dX9_reportByte_27 rfl ?_
      first | exact ⟨rfl, by unfold p_at; rw [if_pos hb], ⟨_, _, _, _, _, _, hP, rfl, hr1, hrr⟩, hoff⟩ | exact ⟨rfl, by unfold p_at; rw [if_neg hb, nI_clamp hk]; exact congrArg (fun x => some (Value.int x)) (hrr.2.2.2.2.2.2 k hkl), ⟨_, _, _, _, _, _, hP, rfl, hr1, hrr⟩, hoff⟩
