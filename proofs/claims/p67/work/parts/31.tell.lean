/-! THE COMPONENT: what it tells -/
/-- the number of an item -/
abbrev s_in (π : s_Pl) (x : Int32) : Prop := ¬ x < 0 ∧ x < π.1.2 0
theorem s_in.nat {π : s_Pl} {x : Int32} {cnt cp : Nat} (q : s_in π x) (ok : d_ok π.1 cnt cp) : ∃ i, x = nI i ∧ i < cnt := by
  obtain ⟨j, h1, h2⟩ := nI_of q.1
  refine ⟨j, h2, Nat.lt_of_not_le fun z => ?_⟩
  have h3 := q.2
  rw [ok.1, h2] at h3
  exact absurd h3 (Int32.not_lt.mpr (nI_le z (by omega)))

theorem c_X8_itemCount {h : s_H} {n b : Nat} {π : s_Pl} (hP : s_pl h b π) (hn : b + 93 ≤ n) : s_Mt TX8_itemCount 0 0 [.ref b] h n (s_re (some (.int (π.1.2 0))) h n) := by
  obtain ⟨hb, hD, hS, ⟨σt, hDt⟩, ⟨pm, hH⟩, hT, ⟨go, gl, hG, hgl, hgo⟩, ⟨nx, tk, ts, ex, hsc⟩, hR⟩ := id hP
  obtain ⟨τ, hTt, hT0⟩ := id hT
  unfold s_po at hb
  have hd := hD.1
  have hs := hsc.1
  have hk := hH.1
  have ht := hTt.1
  have hg := hG.1
  have hr := hR.1
  have htd := hDt.1
  have hsd := hS.1
  have q1 := hD.2.1
  have q2 := hD.2.2.1
  have q3 := hD.2.2.2.1
  have q4 := hD.2.2.2.2
  have u1 := hDt.2.1
  have u2 := hDt.2.2.1
  have u3 := hDt.2.2.2.1
  have u4 := hDt.2.2.2.2
  refine s_Mt_of rfl (by decide) (by exact Nat.le_of_ble_eq_true rfl) ?_
  refine g_aload_n dX8_itemCount_0 rfl (by rfl) ?_
  refine g_getf dX8_itemCount_1 fX8_12 (by exact hb) (by omega) (by rfl) ?_
  refine g_getf dX8_itemCount_4 fX8_99 (by first | exact hd | exact htd | exact hsd) (by omega) (by rfl) ?_
  refine g_ireturn dX8_itemCount_7 rfl ?_
  exact ⟨rfl, rfl, rfl⟩

theorem c_X8_capacity {h : s_H} {n b : Nat} {π : s_Pl} (hP : s_pl h b π) (hn : b + 93 ≤ n) : s_Mt TX8_capacity 0 0 [.ref b] h n (s_re (some (.int (π.1.2 1))) h n) := by
  obtain ⟨hb, hD, hS, ⟨σt, hDt⟩, ⟨pm, hH⟩, hT, ⟨go, gl, hG, hgl, hgo⟩, ⟨nx, tk, ts, ex, hsc⟩, hR⟩ := id hP
  obtain ⟨τ, hTt, hT0⟩ := id hT
  unfold s_po at hb
  have hd := hD.1
  have hs := hsc.1
  have hk := hH.1
  have ht := hTt.1
  have hg := hG.1
  have hr := hR.1
  have htd := hDt.1
  have hsd := hS.1
  have q1 := hD.2.1
  have q2 := hD.2.2.1
  have q3 := hD.2.2.2.1
  have q4 := hD.2.2.2.2
  have u1 := hDt.2.1
  have u2 := hDt.2.2.1
  have u3 := hDt.2.2.2.1
  have u4 := hDt.2.2.2.2
  refine s_Mt_of rfl (by decide) (by exact Nat.le_of_ble_eq_true rfl) ?_
  refine g_aload_n dX8_capacity_0 rfl (by rfl) ?_
  refine g_getf dX8_capacity_1 fX8_12 (by exact hb) (by omega) (by rfl) ?_
  refine g_getf dX8_capacity_4 fX8_118 (by first | exact hd | exact htd | exact hsd) (by omega) (by rfl) ?_
  refine g_ireturn dX8_capacity_7 rfl ?_
  exact ⟨rfl, rfl, rfl⟩

theorem c_X8_backupCount {h : s_H} {n b : Nat} {π : s_Pl} (hP : s_pl h b π) (hn : b + 93 ≤ n) : s_Mt TX8_backupCount 0 0 [.ref b] h n (s_re (some (.int (π.1.2 2))) h n) := by
  obtain ⟨hb, hD, hS, ⟨σt, hDt⟩, ⟨pm, hH⟩, hT, ⟨go, gl, hG, hgl, hgo⟩, ⟨nx, tk, ts, ex, hsc⟩, hR⟩ := id hP
  obtain ⟨τ, hTt, hT0⟩ := id hT
  unfold s_po at hb
  have hd := hD.1
  have hs := hsc.1
  have hk := hH.1
  have ht := hTt.1
  have hg := hG.1
  have hr := hR.1
  have htd := hDt.1
  have hsd := hS.1
  have q1 := hD.2.1
  have q2 := hD.2.2.1
  have q3 := hD.2.2.2.1
  have q4 := hD.2.2.2.2
  have u1 := hDt.2.1
  have u2 := hDt.2.2.1
  have u3 := hDt.2.2.2.1
  have u4 := hDt.2.2.2.2
  refine s_Mt_of rfl (by decide) (by exact Nat.le_of_ble_eq_true rfl) ?_
  refine g_aload_n dX8_backupCount_0 rfl (by rfl) ?_
  refine g_getf dX8_backupCount_1 fX8_12 (by exact hb) (by omega) (by rfl) ?_
  refine g_getf dX8_backupCount_4 fX8_243 (by first | exact hd | exact htd | exact hsd) (by omega) (by rfl) ?_
  refine g_ireturn dX8_backupCount_7 rfl ?_
  exact ⟨rfl, rfl, rfl⟩

theorem c_X8_backedUpSize {h : s_H} {n b : Nat} {π : s_Pl} (hP : s_pl h b π) (hn : b + 93 ≤ n) : s_Mt TX8_backedUpSize 0 0 [.ref b] h n (s_re (some (.int (π.1.2 3))) h n) := by
  obtain ⟨hb, hD, hS, ⟨σt, hDt⟩, ⟨pm, hH⟩, hT, ⟨go, gl, hG, hgl, hgo⟩, ⟨nx, tk, ts, ex, hsc⟩, hR⟩ := id hP
  obtain ⟨τ, hTt, hT0⟩ := id hT
  unfold s_po at hb
  have hd := hD.1
  have hs := hsc.1
  have hk := hH.1
  have ht := hTt.1
  have hg := hG.1
  have hr := hR.1
  have htd := hDt.1
  have hsd := hS.1
  have q1 := hD.2.1
  have q2 := hD.2.2.1
  have q3 := hD.2.2.2.1
  have q4 := hD.2.2.2.2
  have u1 := hDt.2.1
  have u2 := hDt.2.2.1
  have u3 := hDt.2.2.2.1
  have u4 := hDt.2.2.2.2
  refine s_Mt_of rfl (by decide) (by exact Nat.le_of_ble_eq_true rfl) ?_
  refine g_aload_n dX8_backedUpSize_0 rfl (by rfl) ?_
  refine g_getf dX8_backedUpSize_1 fX8_12 (by exact hb) (by omega) (by rfl) ?_
  refine g_getf dX8_backedUpSize_4 fX8_246 (by first | exact hd | exact htd | exact hsd) (by omega) (by rfl) ?_
  refine g_ireturn dX8_backedUpSize_7 rfl ?_
  exact ⟨rfl, rfl, rfl⟩

theorem c_X8_backedUpWeight {h : s_H} {n b : Nat} {π : s_Pl} (hP : s_pl h b π) (hn : b + 93 ≤ n) : s_Mt TX8_backedUpWeight 0 0 [.ref b] h n (s_re (some (.int (π.1.2 4))) h n) := by
  obtain ⟨hb, hD, hS, ⟨σt, hDt⟩, ⟨pm, hH⟩, hT, ⟨go, gl, hG, hgl, hgo⟩, ⟨nx, tk, ts, ex, hsc⟩, hR⟩ := id hP
  obtain ⟨τ, hTt, hT0⟩ := id hT
  unfold s_po at hb
  have hd := hD.1
  have hs := hsc.1
  have hk := hH.1
  have ht := hTt.1
  have hg := hG.1
  have hr := hR.1
  have htd := hDt.1
  have hsd := hS.1
  have q1 := hD.2.1
  have q2 := hD.2.2.1
  have q3 := hD.2.2.2.1
  have q4 := hD.2.2.2.2
  have u1 := hDt.2.1
  have u2 := hDt.2.2.1
  have u3 := hDt.2.2.2.1
  have u4 := hDt.2.2.2.2
  refine s_Mt_of rfl (by decide) (by exact Nat.le_of_ble_eq_true rfl) ?_
  refine g_aload_n dX8_backedUpWeight_0 rfl (by rfl) ?_
  refine g_getf dX8_backedUpWeight_1 fX8_12 (by exact hb) (by omega) (by rfl) ?_
  refine g_getf dX8_backedUpWeight_4 fX8_249 (by first | exact hd | exact htd | exact hsd) (by omega) (by rfl) ?_
  refine g_ireturn dX8_backedUpWeight_7 rfl ?_
  exact ⟨rfl, rfl, rfl⟩

theorem c_X8_size {h : s_H} {n b : Nat} {π : s_Pl} (hP : s_pl h b π) (hn : b + 93 ≤ n) {cnt cp : Nat} (ok : d_ok π.1 cnt cp) (x : Int32) : s_Mt TX8_size 1 6 [.ref b, .int x] h n (s_rp n (fun v9 h1 => v9 = some (.int (π.1.1 0 x.toNatClampNeg)) ∧ h1 = h ∧ s_in π x) (fun E h1 => E = "java/lang/IndexOutOfBoundsException" ∧ h1 = h ∧ ¬ s_in π x)) := by
  obtain ⟨hb, hD, hS, ⟨σt, hDt⟩, ⟨pm, hH⟩, hT, ⟨go, gl, hG, hgl, hgo⟩, ⟨nx, tk, ts, ex, hsc⟩, hR⟩ := id hP
  obtain ⟨τ, hTt, hT0⟩ := id hT
  unfold s_po at hb
  have hd := hD.1
  have hs := hsc.1
  have hk := hH.1
  have ht := hTt.1
  have hg := hG.1
  have hr := hR.1
  have htd := hDt.1
  have hsd := hS.1
  have q1 := hD.2.1
  have q2 := hD.2.2.1
  have q3 := hD.2.2.2.1
  have q4 := hD.2.2.2.2
  have u1 := hDt.2.1
  have u2 := hDt.2.2.1
  have u3 := hDt.2.2.2.1
  have u4 := hDt.2.2.2.2
  rw [ok.1, ok.2.2.1] at hd
  refine s_Mt_of rfl (by decide) (by exact Nat.le_of_ble_eq_true rfl) ?_
  refine g_aload_n dX8_size_0 rfl (by rfl) ?_
  refine g_iload_n dX8_size_1 rfl (by rfl) ?_
  refine g_callV_x (c_X8_requireItem hP hn x) dX8_size_2 (mX8_requireItem) rfl lX8_102 iX8_requireItem vX8_requireItem (by decide) (by omega) (by exact hb) rfl rfl rfl rfl (Nat.le_of_ble_eq_true rfl) (Nat.le_of_ble_eq_true rfl) (Nat.le_of_ble_eq_true rfl) (fun v9 h9 z9 => ?_) (fun E9 h9 z9 => gx_out rfl ⟨rfl, z9.1, z9.2.1, z9.2.2⟩)
  obtain ⟨rfl, hh, hin⟩ := z9
  have hh := hh.symm
  subst hh
  obtain ⟨i, rfl, hi⟩ := s_in.nat hin ok
  have hi14 := ok.2.1
  refine g_aload_n dX8_size_5 rfl (by rfl) ?_
  refine g_getf dX8_size_6 fX8_12 (by exact hb) (by omega) (by rfl) ?_
  refine g_getf dX8_size_9 fX8_108 (by first | exact hd | exact htd | exact hsd) (by omega) (by rfl) ?_
  refine g_iload_n dX8_size_12 rfl (by rfl) ?_
  refine g_iald dX8_size_13 (by first | exact q1 | exact q2 | exact q3 | exact q4 | exact u1 | exact u2 | exact u3 | exact u4) (by omega) (by rfl) (by omega) (by omega) ?_
  refine g_ireturn dX8_size_14 rfl ?_
  exact ⟨rfl, by rw [nI_clamp (by omega)], rfl, hin⟩

theorem c_X8_value {h : s_H} {n b : Nat} {π : s_Pl} (hP : s_pl h b π) (hn : b + 93 ≤ n) {cnt cp : Nat} (ok : d_ok π.1 cnt cp) (x : Int32) : s_Mt TX8_value 1 6 [.ref b, .int x] h n (s_rp n (fun v9 h1 => v9 = some (.int (π.1.1 1 x.toNatClampNeg)) ∧ h1 = h ∧ s_in π x) (fun E h1 => E = "java/lang/IndexOutOfBoundsException" ∧ h1 = h ∧ ¬ s_in π x)) := by
  obtain ⟨hb, hD, hS, ⟨σt, hDt⟩, ⟨pm, hH⟩, hT, ⟨go, gl, hG, hgl, hgo⟩, ⟨nx, tk, ts, ex, hsc⟩, hR⟩ := id hP
  obtain ⟨τ, hTt, hT0⟩ := id hT
  unfold s_po at hb
  have hd := hD.1
  have hs := hsc.1
  have hk := hH.1
  have ht := hTt.1
  have hg := hG.1
  have hr := hR.1
  have htd := hDt.1
  have hsd := hS.1
  have q1 := hD.2.1
  have q2 := hD.2.2.1
  have q3 := hD.2.2.2.1
  have q4 := hD.2.2.2.2
  have u1 := hDt.2.1
  have u2 := hDt.2.2.1
  have u3 := hDt.2.2.2.1
  have u4 := hDt.2.2.2.2
  rw [ok.1, ok.2.2.1] at hd
  refine s_Mt_of rfl (by decide) (by exact Nat.le_of_ble_eq_true rfl) ?_
  refine g_aload_n dX8_value_0 rfl (by rfl) ?_
  refine g_iload_n dX8_value_1 rfl (by rfl) ?_
  refine g_callV_x (c_X8_requireItem hP hn x) dX8_value_2 (mX8_requireItem) rfl lX8_102 iX8_requireItem vX8_requireItem (by decide) (by omega) (by exact hb) rfl rfl rfl rfl (Nat.le_of_ble_eq_true rfl) (Nat.le_of_ble_eq_true rfl) (Nat.le_of_ble_eq_true rfl) (fun v9 h9 z9 => ?_) (fun E9 h9 z9 => gx_out rfl ⟨rfl, z9.1, z9.2.1, z9.2.2⟩)
  obtain ⟨rfl, hh, hin⟩ := z9
  have hh := hh.symm
  subst hh
  obtain ⟨i, rfl, hi⟩ := s_in.nat hin ok
  have hi14 := ok.2.1
  refine g_aload_n dX8_value_5 rfl (by rfl) ?_
  refine g_getf dX8_value_6 fX8_12 (by exact hb) (by omega) (by rfl) ?_
  refine g_getf dX8_value_9 fX8_111 (by first | exact hd | exact htd | exact hsd) (by omega) (by rfl) ?_
  refine g_iload_n dX8_value_12 rfl (by rfl) ?_
  refine g_iald dX8_value_13 (by first | exact q1 | exact q2 | exact q3 | exact q4 | exact u1 | exact u2 | exact u3 | exact u4) (by omega) (by rfl) (by omega) (by omega) ?_
  refine g_ireturn dX8_value_14 rfl ?_
  exact ⟨rfl, by rw [nI_clamp (by omega)], rfl, hin⟩

theorem c_X8_age {h : s_H} {n b : Nat} {π : s_Pl} (hP : s_pl h b π) (hn : b + 93 ≤ n) {cnt cp : Nat} (ok : d_ok π.1 cnt cp) (x : Int32) : s_Mt TX8_age 1 6 [.ref b, .int x] h n (s_rp n (fun v9 h1 => v9 = some (.int (π.1.1 2 x.toNatClampNeg)) ∧ h1 = h ∧ s_in π x) (fun E h1 => E = "java/lang/IndexOutOfBoundsException" ∧ h1 = h ∧ ¬ s_in π x)) := by
  obtain ⟨hb, hD, hS, ⟨σt, hDt⟩, ⟨pm, hH⟩, hT, ⟨go, gl, hG, hgl, hgo⟩, ⟨nx, tk, ts, ex, hsc⟩, hR⟩ := id hP
  obtain ⟨τ, hTt, hT0⟩ := id hT
  unfold s_po at hb
  have hd := hD.1
  have hs := hsc.1
  have hk := hH.1
  have ht := hTt.1
  have hg := hG.1
  have hr := hR.1
  have htd := hDt.1
  have hsd := hS.1
  have q1 := hD.2.1
  have q2 := hD.2.2.1
  have q3 := hD.2.2.2.1
  have q4 := hD.2.2.2.2
  have u1 := hDt.2.1
  have u2 := hDt.2.2.1
  have u3 := hDt.2.2.2.1
  have u4 := hDt.2.2.2.2
  rw [ok.1, ok.2.2.1] at hd
  refine s_Mt_of rfl (by decide) (by exact Nat.le_of_ble_eq_true rfl) ?_
  refine g_aload_n dX8_age_0 rfl (by rfl) ?_
  refine g_iload_n dX8_age_1 rfl (by rfl) ?_
  refine g_callV_x (c_X8_requireItem hP hn x) dX8_age_2 (mX8_requireItem) rfl lX8_102 iX8_requireItem vX8_requireItem (by decide) (by omega) (by exact hb) rfl rfl rfl rfl (Nat.le_of_ble_eq_true rfl) (Nat.le_of_ble_eq_true rfl) (Nat.le_of_ble_eq_true rfl) (fun v9 h9 z9 => ?_) (fun E9 h9 z9 => gx_out rfl ⟨rfl, z9.1, z9.2.1, z9.2.2⟩)
  obtain ⟨rfl, hh, hin⟩ := z9
  have hh := hh.symm
  subst hh
  obtain ⟨i, rfl, hi⟩ := s_in.nat hin ok
  have hi14 := ok.2.1
  refine g_aload_n dX8_age_5 rfl (by rfl) ?_
  refine g_getf dX8_age_6 fX8_12 (by exact hb) (by omega) (by rfl) ?_
  refine g_getf dX8_age_9 fX8_170 (by first | exact hd | exact htd | exact hsd) (by omega) (by rfl) ?_
  refine g_iload_n dX8_age_12 rfl (by rfl) ?_
  refine g_iald dX8_age_13 (by first | exact q1 | exact q2 | exact q3 | exact q4 | exact u1 | exact u2 | exact u3 | exact u4) (by omega) (by rfl) (by omega) (by omega) ?_
  refine g_ireturn dX8_age_14 rfl ?_
  exact ⟨rfl, by rw [nI_clamp (by omega)], rfl, hin⟩

theorem c_X8_state {h : s_H} {n b : Nat} {π : s_Pl} (hP : s_pl h b π) (hn : b + 93 ≤ n) {cnt cp : Nat} (ok : d_ok π.1 cnt cp) (x : Int32) : s_Mt TX8_state 1 6 [.ref b, .int x] h n (s_rp n (fun v9 h1 => v9 = some (.int (π.1.1 3 x.toNatClampNeg)) ∧ h1 = h ∧ s_in π x) (fun E h1 => E = "java/lang/IndexOutOfBoundsException" ∧ h1 = h ∧ ¬ s_in π x)) := by
  obtain ⟨hb, hD, hS, ⟨σt, hDt⟩, ⟨pm, hH⟩, hT, ⟨go, gl, hG, hgl, hgo⟩, ⟨nx, tk, ts, ex, hsc⟩, hR⟩ := id hP
  obtain ⟨τ, hTt, hT0⟩ := id hT
  unfold s_po at hb
  have hd := hD.1
  have hs := hsc.1
  have hk := hH.1
  have ht := hTt.1
  have hg := hG.1
  have hr := hR.1
  have htd := hDt.1
  have hsd := hS.1
  have q1 := hD.2.1
  have q2 := hD.2.2.1
  have q3 := hD.2.2.2.1
  have q4 := hD.2.2.2.2
  have u1 := hDt.2.1
  have u2 := hDt.2.2.1
  have u3 := hDt.2.2.2.1
  have u4 := hDt.2.2.2.2
  rw [ok.1, ok.2.2.1] at hd
  refine s_Mt_of rfl (by decide) (by exact Nat.le_of_ble_eq_true rfl) ?_
  refine g_aload_n dX8_state_0 rfl (by rfl) ?_
  refine g_iload_n dX8_state_1 rfl (by rfl) ?_
  refine g_callV_x (c_X8_requireItem hP hn x) dX8_state_2 (mX8_requireItem) rfl lX8_102 iX8_requireItem vX8_requireItem (by decide) (by omega) (by exact hb) rfl rfl rfl rfl (Nat.le_of_ble_eq_true rfl) (Nat.le_of_ble_eq_true rfl) (Nat.le_of_ble_eq_true rfl) (fun v9 h9 z9 => ?_) (fun E9 h9 z9 => gx_out rfl ⟨rfl, z9.1, z9.2.1, z9.2.2⟩)
  obtain ⟨rfl, hh, hin⟩ := z9
  have hh := hh.symm
  subst hh
  obtain ⟨i, rfl, hi⟩ := s_in.nat hin ok
  have hi14 := ok.2.1
  refine g_aload_n dX8_state_5 rfl (by rfl) ?_
  refine g_getf dX8_state_6 fX8_12 (by exact hb) (by omega) (by rfl) ?_
  refine g_getf dX8_state_9 fX8_69 (by first | exact hd | exact htd | exact hsd) (by omega) (by rfl) ?_
  refine g_iload_n dX8_state_12 rfl (by rfl) ?_
  refine g_iald dX8_state_13 (by first | exact q1 | exact q2 | exact q3 | exact q4 | exact u1 | exact u2 | exact u3 | exact u4) (by omega) (by rfl) (by omega) (by omega) ?_
  refine g_ireturn dX8_state_14 rfl ?_
  exact ⟨rfl, by rw [nI_clamp (by omega)], rfl, hin⟩

theorem c_X8_weight {h : s_H} {n b : Nat} {π : s_Pl} (hP : s_pl h b π) (hn : b + 93 ≤ n) {cnt cp : Nat} (ok : d_ok π.1 cnt cp) (x : Int32) : s_Mt TX8_weight 1 6 [.ref b, .int x] h n (s_rp n (fun v9 h1 => v9 = some (.int (d_wt π.1 x.toNatClampNeg)) ∧ h1 = h ∧ s_in π x) (fun E h1 => E = "java/lang/IndexOutOfBoundsException" ∧ h1 = h ∧ ¬ s_in π x)) := by
  obtain ⟨hb, hD, hS, ⟨σt, hDt⟩, ⟨pm, hH⟩, hT, ⟨go, gl, hG, hgl, hgo⟩, ⟨nx, tk, ts, ex, hsc⟩, hR⟩ := id hP
  obtain ⟨τ, hTt, hT0⟩ := id hT
  unfold s_po at hb
  have hd := hD.1
  have hs := hsc.1
  have hk := hH.1
  have ht := hTt.1
  have hg := hG.1
  have hr := hR.1
  have htd := hDt.1
  have hsd := hS.1
  have q1 := hD.2.1
  have q2 := hD.2.2.1
  have q3 := hD.2.2.2.1
  have q4 := hD.2.2.2.2
  have u1 := hDt.2.1
  have u2 := hDt.2.2.1
  have u3 := hDt.2.2.2.1
  have u4 := hDt.2.2.2.2
  rw [ok.1, ok.2.2.1] at hd
  refine s_Mt_of rfl (by decide) (by exact Nat.le_of_ble_eq_true rfl) ?_
  refine g_aload_n dX8_weight_0 rfl (by rfl) ?_
  refine g_iload_n dX8_weight_1 rfl (by rfl) ?_
  refine g_callV_x (c_X8_requireItem hP hn x) dX8_weight_2 (mX8_requireItem) rfl lX8_102 iX8_requireItem vX8_requireItem (by decide) (by omega) (by exact hb) rfl rfl rfl rfl (Nat.le_of_ble_eq_true rfl) (Nat.le_of_ble_eq_true rfl) (Nat.le_of_ble_eq_true rfl) (fun v9 h9 z9 => ?_) (fun E9 h9 z9 => gx_out rfl ⟨rfl, z9.1, z9.2.1, z9.2.2⟩)
  obtain ⟨rfl, hh, hin⟩ := z9
  have hh := hh.symm
  subst hh
  obtain ⟨i, rfl, hi⟩ := s_in.nat hin ok
  have hi14 := ok.2.1
  refine g_aload_n dX8_weight_5 rfl (by rfl) ?_
  refine g_getf dX8_weight_6 fX8_12 (by exact hb) (by omega) (by rfl) ?_
  refine g_iload_n dX8_weight_9 rfl (by rfl) ?_
  refine g_callV_e (c_X2_weightOf hD (by omega) (by omega)) dX8_weight_10 (mX2_weightOf) rfl lX8_173 iX2_weightOf vX2_weightOf (by decide) (by omega) (by first | exact hd | exact htd | exact hsd) rfl rfl rfl rfl (Nat.le_of_ble_eq_true rfl) ?_
  refine g_ireturn dX8_weight_13 rfl ?_
  exact ⟨rfl, by rw [nI_clamp (by omega)], rfl, hin⟩

theorem c_X8_pinnedItems {h : s_H} {n b : Nat} {π : s_Pl} (hP : s_pl h b π) (hn : b + 93 ≤ n) {cnt cp : Nat} (ok : d_ok π.1 cnt cp) : s_Mt TX8_pinnedItems 0 0 [.ref b] h n (s_re (some (.int (d_set π.1 1 cnt))) h n) := by
  obtain ⟨hb, hD, hS, ⟨σt, hDt⟩, ⟨pm, hH⟩, hT, ⟨go, gl, hG, hgl, hgo⟩, ⟨nx, tk, ts, ex, hsc⟩, hR⟩ := id hP
  obtain ⟨τ, hTt, hT0⟩ := id hT
  unfold s_po at hb
  have hd := hD.1
  have hs := hsc.1
  have hk := hH.1
  have ht := hTt.1
  have hg := hG.1
  have hr := hR.1
  have htd := hDt.1
  have hsd := hS.1
  have q1 := hD.2.1
  have q2 := hD.2.2.1
  have q3 := hD.2.2.2.1
  have q4 := hD.2.2.2.2
  have u1 := hDt.2.1
  have u2 := hDt.2.2.1
  have u3 := hDt.2.2.2.1
  have u4 := hDt.2.2.2.2
  rw [ok.1, ok.2.2.1] at hd
  refine s_Mt_of rfl (by decide) (by exact Nat.le_of_ble_eq_true rfl) ?_
  refine g_aload_n dX8_pinnedItems_0 rfl (by rfl) ?_
  refine g_getf dX8_pinnedItems_1 fX8_12 (by exact hb) (by omega) (by rfl) ?_
  refine g_iconst 1 dX8_pinnedItems_4 (by rfl) ?_
  refine g_callV_e (c_X2_setOf hD (by omega) ok.1 ok.2.1 1) dX8_pinnedItems_5 (mX2_setOf) rfl lX8_176 iX2_setOf vX2_setOf (by decide) (by omega) (by first | exact hd | exact htd | exact hsd) rfl rfl rfl rfl (Nat.le_of_ble_eq_true rfl) ?_
  refine g_ireturn dX8_pinnedItems_8 rfl ?_
  exact ⟨rfl, rfl, rfl⟩

theorem c_X8_pinnedSize {h : s_H} {n b : Nat} {π : s_Pl} (hP : s_pl h b π) (hn : b + 93 ≤ n) {cnt cp : Nat} (ok : d_ok π.1 cnt cp) : s_Mt TX8_pinnedSize 0 0 [.ref b] h n (s_re (some (.int (d_tot (π.1.1 0) (d_set π.1 1 cnt) cnt))) h n) := by
  obtain ⟨hb, hD, hS, ⟨σt, hDt⟩, ⟨pm, hH⟩, hT, ⟨go, gl, hG, hgl, hgo⟩, ⟨nx, tk, ts, ex, hsc⟩, hR⟩ := id hP
  obtain ⟨τ, hTt, hT0⟩ := id hT
  unfold s_po at hb
  have hd := hD.1
  have hs := hsc.1
  have hk := hH.1
  have ht := hTt.1
  have hg := hG.1
  have hr := hR.1
  have htd := hDt.1
  have hsd := hS.1
  have q1 := hD.2.1
  have q2 := hD.2.2.1
  have q3 := hD.2.2.2.1
  have q4 := hD.2.2.2.2
  have u1 := hDt.2.1
  have u2 := hDt.2.2.1
  have u3 := hDt.2.2.2.1
  have u4 := hDt.2.2.2.2
  rw [ok.1, ok.2.2.1] at hd
  refine s_Mt_of rfl (by decide) (by exact Nat.le_of_ble_eq_true rfl) ?_
  refine g_aload_n dX8_pinnedSize_0 rfl (by rfl) ?_
  refine g_getf dX8_pinnedSize_1 fX8_12 (by exact hb) (by omega) (by rfl) ?_
  refine g_aload_n dX8_pinnedSize_4 rfl (by rfl) ?_
  refine g_getf dX8_pinnedSize_5 fX8_12 (by exact hb) (by omega) (by rfl) ?_
  refine g_iconst 1 dX8_pinnedSize_8 (by rfl) ?_
  refine g_callV_e (c_X2_setOf hD (by omega) ok.1 ok.2.1 1) dX8_pinnedSize_9 (mX2_setOf) rfl lX8_176 iX2_setOf vX2_setOf (by decide) (by omega) (by first | exact hd | exact htd | exact hsd) rfl rfl rfl rfl (Nat.le_of_ble_eq_true rfl) ?_
  refine g_callV_e (c_X2_totalSize hD (by omega) ok.1 ok.2.1 _) dX8_pinnedSize_12 (mX2_totalSize) rfl lX8_179 iX2_totalSize vX2_totalSize (by decide) (by omega) (by first | exact hd | exact htd | exact hsd) rfl rfl rfl rfl (Nat.le_of_ble_eq_true rfl) ?_
  refine g_ireturn dX8_pinnedSize_15 rfl ?_
  exact ⟨rfl, rfl, rfl⟩

theorem c_X8_freeCount {h : s_H} {n b : Nat} {π : s_Pl} (hP : s_pl h b π) (hn : b + 93 ≤ n) {cnt cp : Nat} (ok : d_ok π.1 cnt cp) : s_Mt TX8_freeCount 0 0 [.ref b] h n (s_re (some (.int (s_bc (d_set π.1 0 cnt)))) h n) := by
  obtain ⟨hb, hD, hS, ⟨σt, hDt⟩, ⟨pm, hH⟩, hT, ⟨go, gl, hG, hgl, hgo⟩, ⟨nx, tk, ts, ex, hsc⟩, hR⟩ := id hP
  obtain ⟨τ, hTt, hT0⟩ := id hT
  unfold s_po at hb
  have hd := hD.1
  have hs := hsc.1
  have hk := hH.1
  have ht := hTt.1
  have hg := hG.1
  have hr := hR.1
  have htd := hDt.1
  have hsd := hS.1
  have q1 := hD.2.1
  have q2 := hD.2.2.1
  have q3 := hD.2.2.2.1
  have q4 := hD.2.2.2.2
  have u1 := hDt.2.1
  have u2 := hDt.2.2.1
  have u3 := hDt.2.2.2.1
  have u4 := hDt.2.2.2.2
  rw [ok.1, ok.2.2.1] at hd
  refine s_Mt_of rfl (by decide) (by exact Nat.le_of_ble_eq_true rfl) ?_
  refine g_aload_n dX8_freeCount_0 rfl (by rfl) ?_
  refine g_getf dX8_freeCount_1 fX8_12 (by exact hb) (by omega) (by rfl) ?_
  refine g_iconst 0 dX8_freeCount_4 (by rfl) ?_
  refine g_callV_e (c_X2_setOf hD (by omega) ok.1 ok.2.1 0) dX8_freeCount_5 (mX2_setOf) rfl lX8_176 iX2_setOf vX2_setOf (by decide) (by omega) (by first | exact hd | exact htd | exact hsd) rfl rfl rfl rfl (Nat.le_of_ble_eq_true rfl) ?_
  refine g_callS_e (c_bit _) dX8_freeCount_8 (mJ6_bitCount_0f7a4) rfl lX8_150 sJ6_bitCount_0f7a4 (by decide) rfl rfl (Nat.le_of_ble_eq_true rfl) ?_
  refine g_ireturn dX8_freeCount_11 rfl ?_
  exact ⟨rfl, rfl, rfl⟩

theorem c_X8_hasPlan {h : s_H} {n b : Nat} {π : s_Pl} (hP : s_pl h b π) (hn : b + 93 ≤ n) {cnt cp : Nat} (ok : d_ok π.1 cnt cp) : s_Mt TX8_hasPlan 0 0 [.ref b] h n (s_re (some (.int (if d_room π.1 cnt < 0 then 0 else 1))) h n) := by
  obtain ⟨hb, hD, hS, ⟨σt, hDt⟩, ⟨pm, hH⟩, hT, ⟨go, gl, hG, hgl, hgo⟩, ⟨nx, tk, ts, ex, hsc⟩, hR⟩ := id hP
  obtain ⟨τ, hTt, hT0⟩ := id hT
  unfold s_po at hb
  have hd := hD.1
  have hs := hsc.1
  have hk := hH.1
  have ht := hTt.1
  have hg := hG.1
  have hr := hR.1
  have htd := hDt.1
  have hsd := hS.1
  have q1 := hD.2.1
  have q2 := hD.2.2.1
  have q3 := hD.2.2.2.1
  have q4 := hD.2.2.2.2
  have u1 := hDt.2.1
  have u2 := hDt.2.2.1
  have u3 := hDt.2.2.2.1
  have u4 := hDt.2.2.2.2
  rw [ok.1, ok.2.2.1] at hd
  refine s_Mt_of rfl (by decide) (by exact Nat.le_of_ble_eq_true rfl) ?_
  refine g_aload_n dX8_hasPlan_0 rfl (by rfl) ?_
  refine g_getf dX8_hasPlan_1 fX8_12 (by exact hb) (by omega) (by rfl) ?_
  refine g_callV_e (c_X2_room hD (by omega) ok.1 ok.2.1) dX8_hasPlan_4 (mX2_room) rfl lX8_189 iX2_room vX2_room (by decide) (by omega) (by first | exact hd | exact htd | exact hsd) rfl rfl rfl rfl (Nat.le_of_ble_eq_true rfl) ?_
  refine g_if_lt (tgt := 14) dX8_hasPlan_7 (by decide) (fun c_7 => ?_) (fun c_7 => ?_)
  · refine g_iconst 0 dX8_hasPlan_14 (by rfl) ?_
    refine g_zreturn dX8_hasPlan_15 rfl (by decide) ?_
    exact ⟨by first | rw [if_pos c_7] | rw [if_neg c_7], rfl, rfl⟩
  · refine g_iconst 1 dX8_hasPlan_10 (by rfl) ?_
    refine g_goto (tgt := 15) dX8_hasPlan_11 (by decide) ?_
    refine g_zreturn dX8_hasPlan_15 rfl (by decide) ?_
    exact ⟨by first | rw [if_pos c_7] | rw [if_neg c_7], rfl, rfl⟩
