/-! THE MODEL: backups tried, what an item needs -/
theorem m_D_61 {f g : Nat → Int32} {cnt : Nat} (h : ∀ j, j < 61 → f j = g j) (h14 : cnt ≤ 14) : d_eq cnt (m_D f) (m_D g) :=
  d_eq_mk (h 1 (by omega)) (h 0 (by omega)) (h 2 (by omega)) (h 3 (by omega)) (h 4 (by omega)) (fun j hj => ⟨h _ (by omega), h _ (by omega), h _ (by omega), h _ (by omega)⟩)
theorem m_pl.as {h h1 : s_H} {m : Nat} {I w sn tx rp g : Nat → Int32} {P : Nat → Nat → Int32} (q : m_pl h m I w sn P tx rp) (z : s_off h h1 (m + 15) (m + 16)) (e : h1 (m + 15) = .inl (0, 61, .inl g)) : m_pl h1 m I w sn P tx rp := by
  obtain ⟨q1, ⟨pm, q2⟩, q3, ⟨f, q4⟩, -, q6, q7, q8⟩ := q
  exact ⟨q1.off z (by omega), ⟨pm, q2.kp (fun j a b => z j (by omega))⟩, (z _ (by omega)).trans q3, ⟨f, (z _ (by omega)).trans q4⟩, ⟨g, e⟩, (z _ (by omega)).trans q6, (z _ (by omega)).trans q7, q8.off z (by omega)⟩
theorem m_pl.wc {h h1 : s_H} {m : Nat} {I w sn tx rp g : Nat → Int32} {P : Nat → Nat → Int32} (q : m_pl h m I w sn P tx rp) (z : s_off h h1 (m + 1) (m + 2)) (e : h1 (m + 1) = .inl (0, 61, .inl g)) : m_pl h1 m I g sn P tx rp :=
  q.q (z.wide (a' := m) (b' := m + 2) (by omega) (by omega)).l2 ⟨(z m (by omega)).trans q.1.1, e⟩ (q.2.2.2.2.2.2.2.off z (by omega))

theorem c_M_takenInBackup {h : s_H} {n m : Nat} {π : s_Pl} {t : Int32} (hR : m_R h m π t) (hn : m + 21 ≤ n) {cnt cp : Nat} (ok : d_ok π.1 cnt cp) (x : Int32) : s_Mt TX9_takenInBackup 0 0 [.ref m, .int x] h n (s_rp n (fun v9 h1 => ((¬ (x < 1 ∨ 50 < x) ∧ v9 = some (.int (v_lt π.1 cnt cp x.toNatClampNeg)) ∧ m_R h1 m π 0) ∨ (¬ ¬ (x < 1 ∨ 50 < x) ∧ (∃ z, v9 = some (.int z)) ∧ m_R h1 m π 1)) ∧ s_off h h1 m (m + 21)) s_no) := by
  obtain ⟨I, w, sn, P, tx, rp, hP, -, hr1, hrr⟩ := hR
  have hM := hP.1
  have hT := hP.2.2.2.2.2.2.2
  have hm := hM.1
  have hw := hM.2
  have hoff : s_off h h m (m + 21) := s_off.rf
  have he : d_eq cnt (m_D w) π.1 := by
    obtain ⟨c9, p9, o9, e9⟩ := id hr1
    obtain rfl : c9 = cnt := o9.cn.symm.trans ok.cn
    exact e9
  have okm := he.sy.ok ok
  have hc := okm.1
  have h14 := ok.2.1
  have hcp := okm.2.2.1
  have h100 := ok.2.2.2.1
  refine s_Mt_of rfl (by decide) (by exact Nat.le_of_ble_eq_true rfl) ?_
  refine g_aload_n dX9_takenInBackup_0 rfl (by rfl) ?_
  refine g_iconst 0 dX9_takenInBackup_1 (by rfl) ?_
  refine g_putf' dX9_takenInBackup_2 pX9_59 (by exact hm) (by omega) (by exact Nat.le_of_ble_eq_true rfl) (by rfl) (by rfl) (fun h31 e31 => ?_)
  first | have hm_31 := s_up_off e31 (by omega) hm | have hm_31 := s_up_at e31
  first | have hw_31 := s_up_off e31 (by omega) hw | have hw_31 := s_up_at e31
  first | have hA_31 := s_up_off e31 (by omega) hA | have hA_31 := s_up_at e31
  have hM := hM.th e31
  have qoff : s_off _ h31 m (m + 1) := s_off.rf.up e31 (by omega)
  have hT := hT.off qoff (by omega)
  have hP := hP.q (qoff.wide (a' := m) (b' := m + 2) (by omega) (by omega)).l2 hM hT
  have hoff := hoff.trans (qoff.wide (a' := m) (b' := m + 21) (by omega) (by omega))
  have hm := hM.1
  have hw := hM.2
  obtain ⟨g0, hA⟩ := hP.2.2.2.2.1
  refine g_aload_n dX9_takenInBackup_5 rfl (by rfl) ?_
  refine g_iload_n dX9_takenInBackup_6 rfl (by rfl) ?_
  refine g_iconst 1 dX9_takenInBackup_7 (by rfl) ?_
  refine g_bipush 50 dX9_takenInBackup_8 (by rfl) ?_
  refine g_iconst 1 dX9_takenInBackup_10 (by rfl) ?_
  refine g_callV_p (c_X9_outside hM hn x 1 50 1) dX9_takenInBackup_11 (mX9_outside) rfl lX9_69 iX9_outside vX9_outside (by decide) (by omega) (by exact hm) rfl rfl rfl rfl (Nat.le_of_ble_eq_true rfl) (fun v9 h9 z9 => ?_)
  obtain ⟨rfl, hM, qoff⟩ := z9
  have hT := hT.off qoff (by omega)
  have hP := hP.q (qoff.wide (a' := m) (b' := m + 2) (by omega) (by omega)).l2 hM hT
  have hoff := hoff.trans (qoff.wide (a' := m) (b' := m + 21) (by omega) (by omega))
  have hm := hM.1
  have hw := hM.2
  have hA := (qoff (m + 15) (by omega)).trans hA
  refine g_if_eq (tgt := 19) dX9_takenInBackup_14 (by decide) (fun c_14 => ?_) (fun c_14 => ?_)
  · have hin : ¬ (x < 1 ∨ 50 < x) := fun z => by rw [if_pos z] at c_14; exact absurd c_14 (by decide)
    rw [if_neg hin] at hM hP
    have hm := hM.1
    have hw := hM.2
    obtain ⟨q, hq9, rfl⟩ := nI_of (x := x) (fun z => hin (Or.inl (by rw [Int32.lt_iff_toInt_lt] at z ⊢; exact Int.lt_trans z (by decide))))
    have hq50 : q ≤ 50 := Nat.le_of_not_lt fun z => hin (Or.inr (nI_lt z hq9))
    refine g_aload_n dX9_takenInBackup_19 rfl (by rfl) ?_
    refine g_getf dX9_takenInBackup_20 fX9_9 (by exact hm) (by omega) (by rfl) ?_
    refine g_aload_n dX9_takenInBackup_23 rfl (by rfl) ?_
    refine g_getf dX9_takenInBackup_24 fX9_24 (by exact hm) (by omega) (by rfl) ?_
    refine g_callS_p (c_X9_copy hw hA (by omega) (by omega) (by omega)) dX9_takenInBackup_27 (mX9_copy) rfl lX9_65 sX9_copy (by decide) rfl rfl (Nat.le_of_ble_eq_true rfl) (fun v9 h9 z9 => ?_)
    obtain ⟨rfl, ⟨g, hg, hgw⟩, qoff⟩ := z9
    have hP := hP.as qoff hg
    have hM := hP.1
    have hT := hP.2.2.2.2.2.2.2
    have hA := hg
    have hoff := hoff.trans (qoff.wide (a' := m) (b' := m + 21) (by omega) (by omega))
    have hm := hM.1
    have hw := hM.2
    refine g_iconst 0 dX9_takenInBackup_30 (by rfl) ?_
    refine g_istore_n dX9_takenInBackup_31 rfl (by decide) ?_
    refine g_iconst 0 dX9_takenInBackup_32 (by rfl) ?_
    refine g_istore_n dX9_takenInBackup_33 rfl (by decide) ?_
    have loop : ∀ (r k : Nat) (h' : s_H) (w9 : Nat → Int32), k + r = q → m_pl h' m (upd I 0 0) w9 sn P tx rp → d_eq cnt (m_D w9) (v_bn (m_D w) cnt cp k) → h' (m + 15) = .inl (0, 61, .inl g) → s_off h h' m (m + 21) → s_G TX9_takenInBackup (s_rp n (fun v9 h1 => ((¬ (nI q < 1 ∨ 50 < nI q) ∧ v9 = some (.int (v_lt π.1 cnt cp (nI q).toNatClampNeg)) ∧ m_R h1 m π 0) ∨ (¬ ¬ (nI q < 1 ∨ 50 < nI q) ∧ (∃ z, v9 = some (.int z)) ∧ m_R h1 m π 1)) ∧ s_off h h1 m (m + 21)) s_no) 34 (s_lvs [(0, .ref m), (1, .int (nI q)), (2, .int (v_lt (m_D w) cnt cp k)), (3, .int (nI k))]) [] h' n 0 0 := by
      intro r
      induction r with
      | zero =>
        intro k h' w9 hk hP heq hA hoff
        have hM := hP.1
        have hT := hP.2.2.2.2.2.2.2
        have hm := hM.1
        have hw := hM.2
        refine g_iload_n dX9_takenInBackup_34 rfl (by rfl) ?_
        refine g_iload_n dX9_takenInBackup_35 rfl (by rfl) ?_
        refine g_icmp_ge (tgt := 50) dX9_takenInBackup_36 (by decide) (fun _ => ?_) (fun c_36 => absurd (nI_le (by omega) (by omega)) c_36)
        refine g_aload_n dX9_takenInBackup_50 rfl (by rfl) ?_
        refine g_getf dX9_takenInBackup_51 fX9_24 (by exact hm) (by omega) (by rfl) ?_
        refine g_aload_n dX9_takenInBackup_54 rfl (by rfl) ?_
        refine g_getf dX9_takenInBackup_55 fX9_9 (by exact hm) (by omega) (by rfl) ?_
        refine g_callS_p (c_X9_copy hA hw (by omega) (by omega) (by omega)) dX9_takenInBackup_58 (mX9_copy) rfl lX9_65 sX9_copy (by decide) rfl rfl (Nat.le_of_ble_eq_true rfl) (fun v9 h9 z9 => ?_)
        obtain ⟨rfl, ⟨g2, hg2, hgw2⟩, qoff⟩ := z9
        have hP := hP.wc qoff hg2
        have hM := hP.1
        have hT := hP.2.2.2.2.2.2.2
        have hoff := hoff.trans (qoff.wide (a' := m) (b' := m + 21) (by omega) (by omega))
        have he9 : d_eq cnt (m_D g2) (m_D w) := m_D_61 (fun j hj => (hgw2 j hj).trans (hgw j hj)) h14
        have hr9 : m_r1 g2 π := ⟨cnt, cp, ok, he9.tr he⟩
        have hm := hM.1
        have hw := hM.2
        refine g_iload_n dX9_takenInBackup_61 rfl (by rfl) ?_
        refine g_ireturn dX9_takenInBackup_62 rfl ?_
        obtain rfl : k = q := by omega
        (refine ⟨rfl, Or.inl ⟨hin, ?_, ⟨_, _, _, _, _, _, hP, rfl, hr9, hrr⟩⟩, hoff⟩; (rw [nI_clamp (by omega), ← he.lt]))
      | succ r ih =>
        intro k h' w9 hk hP heq hA hoff
        have hM := hP.1
        have hT := hP.2.2.2.2.2.2.2
        have hm := hM.1
        have hw := hM.2
        refine g_iload_n dX9_takenInBackup_34 rfl (by rfl) ?_
        refine g_iload_n dX9_takenInBackup_35 rfl (by rfl) ?_
        refine g_icmp_ge (tgt := 50) dX9_takenInBackup_36 (by decide) (fun c_36 => absurd c_36 (nI_ge (by omega) (by omega))) (fun _ => ?_)
        refine g_aload_n dX9_takenInBackup_39 rfl (by rfl) ?_
        refine g_callV_p (c_X9_backup hM hn (heq.sy.ok (v_bn_ok okm k)) hT) dX9_takenInBackup_40 (mX9_backup) rfl lX9_127 iX9_backup vX9_backup (by decide) (by omega) (by exact hm) rfl rfl rfl rfl (Nat.le_of_ble_eq_true rfl) (fun v9 h9 z9 => ?_)
        obtain ⟨rfl, ⟨w8, hM, he8⟩, hT, qoff⟩ := z9
        have qoff9 : s_off2 _ _ m (m + 2) (m + 18) (m + 21) := fun j a b => qoff j (by omega) b
        have hP := hP.q qoff9 hM hT
        have hoff := hoff.trans (qoff9.one (x := m) (y := m + 21) (by omega) (by omega) (by omega) (by omega))
        have hm := hM.1
        have hw := hM.2
        have hA := (qoff9 (m + 15) (by omega) (by omega)).trans hA
        refine g_istore_n dX9_takenInBackup_43 rfl (by decide) ?_
        refine g_iinc (nI (k + 1)) dX9_takenInBackup_44 (by rfl) (nI_inc k) ?_
        refine g_goto (tgt := 34) dX9_takenInBackup_47 (by decide) ?_
        rw [heq.tk] at he8
        exact g_lv (ih (k + 1) _ _ (by omega) hP (he8.tr (heq.bk _)) hA hoff) ⟨rfl, rfl, by rw [heq.tk]; rfl, rfl, trivial⟩
    exact g_lv (loop q 0 _ _ (by omega) hP d_eq.rf hA hoff) ⟨rfl, rfl, rfl, rfl, trivial⟩
  · have hno : x < 1 ∨ 50 < x := Classical.byContradiction fun z => c_14 (by rw [if_neg z])
    rw [if_pos hno] at hM hP
    have hin : ¬ ¬ (x < 1 ∨ 50 < x) := fun z => z hno
    have hm := hM.1
    have hw := hM.2
    refine g_iconst 0 dX9_takenInBackup_17 (by rfl) ?_
    refine g_ireturn dX9_takenInBackup_18 rfl ?_
    exact ⟨rfl, Or.inr ⟨hin, ⟨_, rfl⟩, ⟨_, _, _, _, _, _, hP, rfl, hr1, hrr⟩⟩, hoff⟩

theorem c_M_neglected {h : s_H} {n m : Nat} {π : s_Pl} {t : Int32} (hR : m_R h m π t) (hn : m + 21 ≤ n) {cnt cp : Nat} (ok : d_ok π.1 cnt cp) (x : Int32) : s_Mt TX9_neglected 0 0 [.ref m, .int x] h n (s_rp n (fun v9 h1 => ((¬ (x < 1 ∨ 50 < x) ∧ v9 = some (.int ((((1 : Int32) <<< (nI cnt &&& 31)) - 1) &&& (v_un π.1 cnt cp x.toNatClampNeg ^^^ -1))) ∧ m_R h1 m π 0) ∨ (¬ ¬ (x < 1 ∨ 50 < x) ∧ (∃ z, v9 = some (.int z)) ∧ m_R h1 m π 1)) ∧ s_off h h1 m (m + 21)) s_no) := by
  obtain ⟨I, w, sn, P, tx, rp, hP, -, hr1, hrr⟩ := hR
  have hM := hP.1
  have hT := hP.2.2.2.2.2.2.2
  have hm := hM.1
  have hw := hM.2
  have hoff : s_off h h m (m + 21) := s_off.rf
  have he : d_eq cnt (m_D w) π.1 := by
    obtain ⟨c9, p9, o9, e9⟩ := id hr1
    obtain rfl : c9 = cnt := o9.cn.symm.trans ok.cn
    exact e9
  have okm := he.sy.ok ok
  have hc := okm.1
  have h14 := ok.2.1
  have hcp := okm.2.2.1
  have h100 := ok.2.2.2.1
  refine s_Mt_of rfl (by decide) (by exact Nat.le_of_ble_eq_true rfl) ?_
  refine g_aload_n dX9_neglected_0 rfl (by rfl) ?_
  refine g_iconst 0 dX9_neglected_1 (by rfl) ?_
  refine g_putf' dX9_neglected_2 pX9_59 (by exact hm) (by omega) (by exact Nat.le_of_ble_eq_true rfl) (by rfl) (by rfl) (fun h31 e31 => ?_)
  first | have hm_31 := s_up_off e31 (by omega) hm | have hm_31 := s_up_at e31
  first | have hw_31 := s_up_off e31 (by omega) hw | have hw_31 := s_up_at e31
  first | have hA_31 := s_up_off e31 (by omega) hA | have hA_31 := s_up_at e31
  have hM := hM.th e31
  have qoff : s_off _ h31 m (m + 1) := s_off.rf.up e31 (by omega)
  have hT := hT.off qoff (by omega)
  have hP := hP.q (qoff.wide (a' := m) (b' := m + 2) (by omega) (by omega)).l2 hM hT
  have hoff := hoff.trans (qoff.wide (a' := m) (b' := m + 21) (by omega) (by omega))
  have hm := hM.1
  have hw := hM.2
  obtain ⟨g0, hA⟩ := hP.2.2.2.2.1
  refine g_aload_n dX9_neglected_5 rfl (by rfl) ?_
  refine g_iload_n dX9_neglected_6 rfl (by rfl) ?_
  refine g_iconst 1 dX9_neglected_7 (by rfl) ?_
  refine g_bipush 50 dX9_neglected_8 (by rfl) ?_
  refine g_iconst 1 dX9_neglected_10 (by rfl) ?_
  refine g_callV_p (c_X9_outside hM hn x 1 50 1) dX9_neglected_11 (mX9_outside) rfl lX9_69 iX9_outside vX9_outside (by decide) (by omega) (by exact hm) rfl rfl rfl rfl (Nat.le_of_ble_eq_true rfl) (fun v9 h9 z9 => ?_)
  obtain ⟨rfl, hM, qoff⟩ := z9
  have hT := hT.off qoff (by omega)
  have hP := hP.q (qoff.wide (a' := m) (b' := m + 2) (by omega) (by omega)).l2 hM hT
  have hoff := hoff.trans (qoff.wide (a' := m) (b' := m + 21) (by omega) (by omega))
  have hm := hM.1
  have hw := hM.2
  have hA := (qoff (m + 15) (by omega)).trans hA
  refine g_if_eq (tgt := 19) dX9_neglected_14 (by decide) (fun c_14 => ?_) (fun c_14 => ?_)
  · have hin : ¬ (x < 1 ∨ 50 < x) := fun z => by rw [if_pos z] at c_14; exact absurd c_14 (by decide)
    rw [if_neg hin] at hM hP
    have hm := hM.1
    have hw := hM.2
    obtain ⟨q, hq9, rfl⟩ := nI_of (x := x) (fun z => hin (Or.inl (by rw [Int32.lt_iff_toInt_lt] at z ⊢; exact Int.lt_trans z (by decide))))
    have hq50 : q ≤ 50 := Nat.le_of_not_lt fun z => hin (Or.inr (nI_lt z hq9))
    refine g_aload_n dX9_neglected_19 rfl (by rfl) ?_
    refine g_getf dX9_neglected_20 fX9_9 (by exact hm) (by omega) (by rfl) ?_
    refine g_aload_n dX9_neglected_23 rfl (by rfl) ?_
    refine g_getf dX9_neglected_24 fX9_24 (by exact hm) (by omega) (by rfl) ?_
    refine g_callS_p (c_X9_copy hw hA (by omega) (by omega) (by omega)) dX9_neglected_27 (mX9_copy) rfl lX9_65 sX9_copy (by decide) rfl rfl (Nat.le_of_ble_eq_true rfl) (fun v9 h9 z9 => ?_)
    obtain ⟨rfl, ⟨g, hg, hgw⟩, qoff⟩ := z9
    have hP := hP.as qoff hg
    have hM := hP.1
    have hT := hP.2.2.2.2.2.2.2
    have hA := hg
    have hoff := hoff.trans (qoff.wide (a' := m) (b' := m + 21) (by omega) (by omega))
    have hm := hM.1
    have hw := hM.2
    refine g_aload_n dX9_neglected_30 rfl (by rfl) ?_
    refine g_iload_n dX9_neglected_31 rfl (by rfl) ?_
    refine g_callV_p (c_X9_backupAll hM hn okm hT (q := q) (by omega)) dX9_neglected_32 (mX9_backupAll) rfl lX9_152 iX9_backupAll vX9_backupAll (by decide) (by omega) (by exact hm) rfl rfl rfl rfl (Nat.le_of_ble_eq_true rfl) (fun v9 h9 z9 => ?_)
    obtain ⟨rfl, ⟨w8, hM, he8⟩, hT, qoff⟩ := z9
    have qoff9 : s_off2 _ _ m (m + 2) (m + 18) (m + 21) := fun j a b => qoff j (by omega) b
    have hP := hP.q qoff9 hM hT
    have hoff := hoff.trans (qoff9.one (x := m) (y := m + 21) (by omega) (by omega) (by omega) (by omega))
    have hm := hM.1
    have hw := hM.2
    have hA := (qoff9 (m + 15) (by omega) (by omega)).trans hA
    refine g_istore_n dX9_neglected_35 rfl (by decide) ?_
    refine g_aload_n dX9_neglected_36 rfl (by rfl) ?_
    refine g_getf dX9_neglected_37 fX9_24 (by exact hm) (by omega) (by rfl) ?_
    refine g_aload_n dX9_neglected_40 rfl (by rfl) ?_
    refine g_getf dX9_neglected_41 fX9_9 (by exact hm) (by omega) (by rfl) ?_
    refine g_callS_p (c_X9_copy hA hw (by omega) (by omega) (by omega)) dX9_neglected_44 (mX9_copy) rfl lX9_65 sX9_copy (by decide) rfl rfl (Nat.le_of_ble_eq_true rfl) (fun v9 h9 z9 => ?_)
    obtain ⟨rfl, ⟨g2, hg2, hgw2⟩, qoff⟩ := z9
    have hP := hP.wc qoff hg2
    have hM := hP.1
    have hT := hP.2.2.2.2.2.2.2
    have hoff := hoff.trans (qoff.wide (a' := m) (b' := m + 21) (by omega) (by omega))
    have he9 : d_eq cnt (m_D g2) (m_D w) := m_D_61 (fun j hj => (hgw2 j hj).trans (hgw j hj)) h14
    have hr9 : m_r1 g2 π := ⟨cnt, cp, ok, he9.tr he⟩
    have hm := hM.1
    have hw := hM.2
    refine g_iconst 1 dX9_neglected_47 (by rfl) ?_
    refine g_aload_n dX9_neglected_48 rfl (by rfl) ?_
    refine g_getf dX9_neglected_49 fX9_9 (by exact hm) (by omega) (by rfl) ?_
    refine g_iconst 1 dX9_neglected_52 (by rfl) ?_
    refine g_iald dX9_neglected_53 (by exact hw) (by omega) (show (1 : Int32) = nI 1 from rfl) (by decide) (by omega) ?_
    rw [show g2 1 = nI cnt from (he9.1 0 (by omega)).trans hc]
    refine g_ishl dX9_neglected_54 ?_
    refine g_iconst 1 dX9_neglected_55 (by rfl) ?_
    refine g_isub dX9_neglected_56 ?_
    refine g_iload_n dX9_neglected_57 rfl (by rfl) ?_
    refine g_iconst (-1) dX9_neglected_58 (by rfl) ?_
    refine g_ixor dX9_neglected_59 ?_
    refine g_iand dX9_neglected_60 ?_
    refine g_ireturn dX9_neglected_61 rfl ?_
    first | (refine ⟨rfl, Or.inl ⟨hin, ?_, ⟨_, _, _, _, _, _, hP, rfl, hr9, hrr⟩⟩, hoff⟩; (rw [nI_clamp (by omega), ← he.un])) | exact ⟨rfl, Or.inr ⟨hin, ⟨_, rfl⟩, ⟨_, _, _, _, _, _, hP, rfl, hr1, hrr⟩⟩, hoff⟩
  · have hno : x < 1 ∨ 50 < x := Classical.byContradiction fun z => c_14 (by rw [if_neg z])
    rw [if_pos hno] at hM hP
    have hin : ¬ ¬ (x < 1 ∨ 50 < x) := fun z => z hno
    have hm := hM.1
    have hw := hM.2
    refine g_iconst 0 dX9_neglected_17 (by rfl) ?_
    refine g_ireturn dX9_neglected_18 rfl ?_
    first | (refine ⟨rfl, Or.inl ⟨hin, ?_, ⟨_, _, _, _, _, _, hP, rfl, hr9, hrr⟩⟩, hoff⟩; (rw [nI_clamp (by omega), ← he.un])) | exact ⟨rfl, Or.inr ⟨hin, ⟨_, rfl⟩, ⟨_, _, _, _, _, _, hP, rfl, hr1, hrr⟩⟩, hoff⟩

theorem v_bu_s {σ : s_D} {cnt cp i f k : Nat} : v_bu σ cnt cp i (f + 1) k = if s_bit (v_tk (v_bn σ cnt cp k) cnt cp) (nI i) = 0 then v_bu σ cnt cp i f (k + 1) else nI (k + 1) := rfl

theorem c_M_backupsUntil {h : s_H} {n m : Nat} {π : s_Pl} {t : Int32} (hR : m_R h m π t) (hn : m + 21 ≤ n) {cnt cp : Nat} (ok : d_ok π.1 cnt cp) (x : Int32) : s_Mt TX9_backupsUntil 0 0 [.ref m, .int x] h n (s_rp n (fun v9 h1 => ((s_in π x ∧ v9 = some (.int (v_bu π.1 cnt cp x.toNatClampNeg 50 0)) ∧ m_R h1 m π 0) ∨ (¬ s_in π x ∧ (∃ z, v9 = some (.int z)) ∧ m_R h1 m π 1)) ∧ s_off h h1 m (m + 21)) s_no) := by
  obtain ⟨I, w, sn, P, tx, rp, hP, -, hr1, hrr⟩ := hR
  have hM := hP.1
  have hT := hP.2.2.2.2.2.2.2
  have hm := hM.1
  have hw := hM.2
  have hoff : s_off h h m (m + 21) := s_off.rf
  have he : d_eq cnt (m_D w) π.1 := by
    obtain ⟨c9, p9, o9, e9⟩ := id hr1
    obtain rfl : c9 = cnt := o9.cn.symm.trans ok.cn
    exact e9
  have okm := he.sy.ok ok
  have hc := okm.1
  have h14 := ok.2.1
  have hcp := okm.2.2.1
  have h100 := ok.2.2.2.1
  refine s_Mt_of rfl (by decide) (by exact Nat.le_of_ble_eq_true rfl) ?_
  refine g_aload_n dX9_backupsUntil_0 rfl (by rfl) ?_
  refine g_iconst 0 dX9_backupsUntil_1 (by rfl) ?_
  refine g_putf' dX9_backupsUntil_2 pX9_59 (by exact hm) (by omega) (by exact Nat.le_of_ble_eq_true rfl) (by rfl) (by rfl) (fun h31 e31 => ?_)
  first | have hm_31 := s_up_off e31 (by omega) hm | have hm_31 := s_up_at e31
  first | have hw_31 := s_up_off e31 (by omega) hw | have hw_31 := s_up_at e31
  first | have hA_31 := s_up_off e31 (by omega) hA | have hA_31 := s_up_at e31
  have hM := hM.th e31
  have qoff : s_off _ h31 m (m + 1) := s_off.rf.up e31 (by omega)
  have hT := hT.off qoff (by omega)
  have hP := hP.q (qoff.wide (a' := m) (b' := m + 2) (by omega) (by omega)).l2 hM hT
  have hoff := hoff.trans (qoff.wide (a' := m) (b' := m + 21) (by omega) (by omega))
  have hm := hM.1
  have hw := hM.2
  obtain ⟨g0, hA⟩ := hP.2.2.2.2.1
  refine g_aload_n dX9_backupsUntil_5 rfl (by rfl) ?_
  refine g_iload_n dX9_backupsUntil_6 rfl (by rfl) ?_
  refine g_callV_p (c_X9_noItem hM hn hc h14 x) dX9_backupsUntil_7 (mX9_noItem) rfl lX9_134 iX9_noItem vX9_noItem (by decide) (by omega) (by exact hm) rfl rfl rfl rfl (Nat.le_of_ble_eq_true rfl) (fun v9 h9 z9 => ?_)
  obtain ⟨rfl, hM, qoff⟩ := z9
  have hT := hT.off qoff (by omega)
  have hP := hP.q (qoff.wide (a' := m) (b' := m + 2) (by omega) (by omega)).l2 hM hT
  have hoff := hoff.trans (qoff.wide (a' := m) (b' := m + 21) (by omega) (by omega))
  have hm := hM.1
  have hw := hM.2
  have hA := (qoff (m + 15) (by omega)).trans hA
  refine g_if_eq (tgt := 15) dX9_backupsUntil_10 (by decide) (fun c_10 => ?_) (fun c_10 => ?_)
  · have hin : ¬ x < 0 ∧ x < nI cnt := Classical.byContradiction fun z => by rw [if_neg z] at c_10; exact absurd c_10 (by decide)
    rw [if_pos hin] at hM hP
    have hin : s_in π x := by unfold s_in; rw [ok.1]; exact hin
    obtain ⟨i, rfl, hi⟩ := hin.nat ok
    have hm := hM.1
    have hw := hM.2
    refine g_aload_n dX9_backupsUntil_15 rfl (by rfl) ?_
    refine g_getf dX9_backupsUntil_16 fX9_9 (by exact hm) (by omega) (by rfl) ?_
    refine g_aload_n dX9_backupsUntil_19 rfl (by rfl) ?_
    refine g_getf dX9_backupsUntil_20 fX9_24 (by exact hm) (by omega) (by rfl) ?_
    refine g_callS_p (c_X9_copy hw hA (by omega) (by omega) (by omega)) dX9_backupsUntil_23 (mX9_copy) rfl lX9_65 sX9_copy (by decide) rfl rfl (Nat.le_of_ble_eq_true rfl) (fun v9 h9 z9 => ?_)
    obtain ⟨rfl, ⟨g, hg, hgw⟩, qoff⟩ := z9
    have hP := hP.as qoff hg
    have hM := hP.1
    have hT := hP.2.2.2.2.2.2.2
    have hA := hg
    have hoff := hoff.trans (qoff.wide (a' := m) (b' := m + 21) (by omega) (by omega))
    have hm := hM.1
    have hw := hM.2
    refine g_iconst 1 dX9_backupsUntil_26 (by rfl) ?_
    refine g_istore_n dX9_backupsUntil_27 rfl (by decide) ?_
    have loop : ∀ (r k : Nat) (h' : s_H) (w9 : Nat → Int32), k + r = 50 → m_pl h' m (upd I 0 0) w9 sn P tx rp → d_eq cnt (m_D w9) (v_bn (m_D w) cnt cp k) → h' (m + 15) = .inl (0, 61, .inl g) → v_bu (m_D w) cnt cp i 50 0 = v_bu (m_D w) cnt cp i r k → s_off h h' m (m + 21) → s_G TX9_backupsUntil (s_rp n (fun v9 h1 => ((s_in π (nI i) ∧ v9 = some (.int (v_bu π.1 cnt cp (nI i).toNatClampNeg 50 0)) ∧ m_R h1 m π 0) ∨ (¬ s_in π (nI i) ∧ (∃ z, v9 = some (.int z)) ∧ m_R h1 m π 1)) ∧ s_off h h1 m (m + 21)) s_no) 28 (s_lvs [(0, .ref m), (1, .int (nI i)), (2, .int (nI (k + 1)))]) [] h' n 0 0 := by
      intro r
      induction r with
      | zero =>
        intro k h' w9 hk hP heq hA hi0 hoff
        have hM := hP.1
        have hT := hP.2.2.2.2.2.2.2
        have hm := hM.1
        have hw := hM.2
        refine g_iload_n dX9_backupsUntil_28 rfl (by rfl) ?_
        refine g_bipush 50 dX9_backupsUntil_29 (by rfl) ?_
        refine g_icmp_gt (tgt := 51) dX9_backupsUntil_31 (by decide) (fun _ => ?_) (fun c_31 => absurd (show nI 50 < nI (k + 1) from nI_lt (by omega) (by omega)) c_31)
        refine g_aload_n dX9_backupsUntil_51 rfl (by rfl) ?_
        refine g_getf dX9_backupsUntil_52 fX9_24 (by exact hm) (by omega) (by rfl) ?_
        refine g_aload_n dX9_backupsUntil_55 rfl (by rfl) ?_
        refine g_getf dX9_backupsUntil_56 fX9_9 (by exact hm) (by omega) (by rfl) ?_
        refine g_callS_p (c_X9_copy hA hw (by omega) (by omega) (by omega)) dX9_backupsUntil_59 (mX9_copy) rfl lX9_65 sX9_copy (by decide) rfl rfl (Nat.le_of_ble_eq_true rfl) (fun v9 h9 z9 => ?_)
        obtain ⟨rfl, ⟨g2, hg2, hgw2⟩, qoff⟩ := z9
        have hP := hP.wc qoff hg2
        have hM := hP.1
        have hT := hP.2.2.2.2.2.2.2
        have hoff := hoff.trans (qoff.wide (a' := m) (b' := m + 21) (by omega) (by omega))
        have he9 : d_eq cnt (m_D g2) (m_D w) := m_D_61 (fun j hj => (hgw2 j hj).trans (hgw j hj)) h14
        have hr9 : m_r1 g2 π := ⟨cnt, cp, ok, he9.tr he⟩
        have hm := hM.1
        have hw := hM.2
        refine g_iload_n dX9_backupsUntil_62 rfl (by rfl) ?_
        refine g_bipush 50 dX9_backupsUntil_63 (by rfl) ?_
        refine g_icmp_le (tgt := 72) dX9_backupsUntil_65 (by decide) (fun c_65 => absurd c_65 (show ¬ nI (k + 1) ≤ nI 50 from nI_ge (by omega) (by omega))) (fun _ => ?_)
        refine g_iconst (-1) dX9_backupsUntil_68 (by rfl) ?_
        refine g_goto (tgt := 73) dX9_backupsUntil_69 (by decide) ?_
        refine g_ireturn dX9_backupsUntil_73 rfl ?_
        obtain rfl : k = 50 := by omega
        (refine ⟨rfl, Or.inl ⟨hin, ?_, ⟨_, _, _, _, _, _, hP, rfl, hr9, hrr⟩⟩, hoff⟩; (rw [nI_clamp (by omega), ← he.bu, hi0]; exact rfl))
      | succ r ih =>
        intro k h' w9 hk hP heq hA hi0 hoff
        have hM := hP.1
        have hT := hP.2.2.2.2.2.2.2
        have hm := hM.1
        have hw := hM.2
        refine g_iload_n dX9_backupsUntil_28 rfl (by rfl) ?_
        refine g_bipush 50 dX9_backupsUntil_29 (by rfl) ?_
        refine g_icmp_gt (tgt := 51) dX9_backupsUntil_31 (by decide) (fun c_31 => absurd c_31 (show ¬ nI 50 < nI (k + 1) from fun z => by rw [nI_lti (by omega) (by omega)] at z; omega)) (fun _ => ?_)
        refine g_aload_n dX9_backupsUntil_34 rfl (by rfl) ?_
        refine g_callV_p (c_X9_backup hM hn (heq.sy.ok (v_bn_ok okm k)) hT) dX9_backupsUntil_35 (mX9_backup) rfl lX9_127 iX9_backup vX9_backup (by decide) (by omega) (by exact hm) rfl rfl rfl rfl (Nat.le_of_ble_eq_true rfl) (fun v9 h9 z9 => ?_)
        obtain ⟨rfl, ⟨w8, hM, he8⟩, hT, qoff⟩ := z9
        have qoff9 : s_off2 _ _ m (m + 2) (m + 18) (m + 21) := fun j a b => qoff j (by omega) b
        have hP := hP.q qoff9 hM hT
        have hoff := hoff.trans (qoff9.one (x := m) (y := m + 21) (by omega) (by omega) (by omega) (by omega))
        have hm := hM.1
        have hw := hM.2
        have hA := (qoff9 (m + 15) (by omega) (by omega)).trans hA
        rw [heq.tk] at he8
        rw [heq.tk]
        refine g_iload_n dX9_backupsUntil_38 rfl (by rfl) ?_
        refine g_callS_e (c_X9_has _ _) dX9_backupsUntil_39 (mX9_has) rfl lX9_80 sX9_has (by decide) rfl rfl (Nat.le_of_ble_eq_true rfl) ?_
        refine g_if_ne (tgt := 51) dX9_backupsUntil_42 (by decide) (fun c_42 => ?_) (fun c_42 => ?_)
        · have hz : ¬ s_bit (v_tk (v_bn (m_D w) cnt cp k) cnt cp) (nI i) = 0 := fun z => c_42 (by rw [if_pos z])
          refine g_aload_n dX9_backupsUntil_51 rfl (by rfl) ?_
          refine g_getf dX9_backupsUntil_52 fX9_24 (by exact hm) (by omega) (by rfl) ?_
          refine g_aload_n dX9_backupsUntil_55 rfl (by rfl) ?_
          refine g_getf dX9_backupsUntil_56 fX9_9 (by exact hm) (by omega) (by rfl) ?_
          refine g_callS_p (c_X9_copy hA hw (by omega) (by omega) (by omega)) dX9_backupsUntil_59 (mX9_copy) rfl lX9_65 sX9_copy (by decide) rfl rfl (Nat.le_of_ble_eq_true rfl) (fun v9 h9 z9 => ?_)
          obtain ⟨rfl, ⟨g2, hg2, hgw2⟩, qoff⟩ := z9
          have hP := hP.wc qoff hg2
          have hM := hP.1
          have hT := hP.2.2.2.2.2.2.2
          have hoff := hoff.trans (qoff.wide (a' := m) (b' := m + 21) (by omega) (by omega))
          have he9 : d_eq cnt (m_D g2) (m_D w) := m_D_61 (fun j hj => (hgw2 j hj).trans (hgw j hj)) h14
          have hr9 : m_r1 g2 π := ⟨cnt, cp, ok, he9.tr he⟩
          have hm := hM.1
          have hw := hM.2
          refine g_iload_n dX9_backupsUntil_62 rfl (by rfl) ?_
          refine g_bipush 50 dX9_backupsUntil_63 (by rfl) ?_
          refine g_icmp_le (tgt := 72) dX9_backupsUntil_65 (by decide) (fun _ => ?_) (fun c_65 => absurd (show nI (k + 1) ≤ nI 50 from nI_le (by omega) (by omega)) c_65)
          refine g_iload_n dX9_backupsUntil_72 rfl (by rfl) ?_
          refine g_ireturn dX9_backupsUntil_73 rfl ?_
          (refine ⟨rfl, Or.inl ⟨hin, ?_, ⟨_, _, _, _, _, _, hP, rfl, hr9, hrr⟩⟩, hoff⟩; (rw [nI_clamp (by omega), ← he.bu, hi0, v_bu_s, if_neg hz]))
        · have hz : s_bit (v_tk (v_bn (m_D w) cnt cp k) cnt cp) (nI i) = 0 := Classical.byContradiction fun z => by rw [if_neg z] at c_42; exact absurd c_42 (by decide)
          refine g_iinc (nI (k + 2)) dX9_backupsUntil_45 (by rfl) (nI_inc (k + 1)) ?_
          refine g_goto (tgt := 28) dX9_backupsUntil_48 (by decide) ?_
          exact g_lv (ih (k + 1) _ _ (by omega) hP (he8.tr (heq.bk _)) hA (hi0.trans (by rw [v_bu_s, if_pos hz])) hoff) ⟨rfl, rfl, rfl, trivial⟩
    exact g_lv (loop 50 0 _ _ (by omega) hP d_eq.rf hA rfl hoff) ⟨rfl, rfl, rfl, trivial⟩
  · have hno : ¬ (¬ x < 0 ∧ x < nI cnt) := fun z => c_10 (by rw [if_pos z])
    rw [if_neg hno] at hM hP
    have hin : ¬ s_in π x := by unfold s_in; rw [ok.1]; exact hno
    have hm := hM.1
    have hw := hM.2
    refine g_iconst 0 dX9_backupsUntil_13 (by rfl) ?_
    refine g_ireturn dX9_backupsUntil_14 rfl ?_
    exact ⟨rfl, Or.inr ⟨hin, ⟨_, rfl⟩, ⟨_, _, _, _, _, _, hP, rfl, hr1, hrr⟩⟩, hoff⟩
