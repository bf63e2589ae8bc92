/-! THE MODEL: changes, beside the planner's state -/
theorem m_pl.rem {h h1 : s_H} {m : Nat} {I w sn tx rp I1 : Nat → Int32} {P P1 : Nat → Nat → Int32} (q : m_pl h m I w sn P tx rp) (z : s_off2 h h1 m (m + 1) (m + 2) (m + 13)) (e : h1 m = .inr (7, m_fs m I1)) (hQ : ∃ pm, m_ps h1 m pm P1) : m_pl h1 m I1 w sn P1 tx rp := by
  obtain ⟨q1, -, q3, ⟨f, q4⟩, ⟨g, q5⟩, q6, q7, ⟨a, b, c, q8, q9, q10⟩⟩ := q
  exact ⟨⟨e, (z _ (by omega) (by omega)).trans q1.2⟩, hQ, (z _ (by omega) (by omega)).trans q3, ⟨f, (z _ (by omega) (by omega)).trans q4⟩, ⟨g, (z _ (by omega) (by omega)).trans q5⟩, (z _ (by omega) (by omega)).trans q6, (z _ (by omega) (by omega)).trans q7, ⟨a, b, c, (z _ (by omega) (by omega)).trans q8, (z _ (by omega) (by omega)).trans q9, (z _ (by omega) (by omega)).trans q10⟩⟩
theorem hp_l_le {l : Nat} (h : l ≤ 10) : hp_l l ≤ 9 := by unfold hp_l; split <;> omega
theorem m_r3_rem {I w : Nat → Int32} {P P1 : Nat → Nat → Int32} {π : s_Pl} {x : Int32} (r1 : m_r1 w π) (r3 : m_r3 I P π) (hb : m_rmb P π.2.2.2.2.1 w P1) : m_r3 (upd (upd I 0 x) 3 (nI (hp_l π.2.2.2.2.1 + 1))) P1 (pl_rem π) := by
  obtain ⟨h1, h2, h3⟩ := r3
  obtain ⟨cnt, cp, ok, he⟩ := r1
  obtain ⟨b1, b2⟩ := hb
  have hle := hp_l_le h1
  refine ⟨show hp_l π.2.2.2.2.1 + 1 ≤ 10 by omega, upd_at, fun i hi => ?_⟩
  change i < hp_l π.2.2.2.2.1 + 1 at hi
  show ∃ c p, d_ok (if i = hp_l π.2.2.2.2.1 then d_cpy π.1 (hp_D0 π.2.2.2.1 π.2.2.2.2.1 i) else hp_D0 π.2.2.2.1 π.2.2.2.2.1 i) c p ∧ d_eq c (m_D (P1 i)) (if i = hp_l π.2.2.2.2.1 then d_cpy π.1 (hp_D0 π.2.2.2.1 π.2.2.2.2.1 i) else hp_D0 π.2.2.2.1 π.2.2.2.2.1 i)
  by_cases e : i = hp_l π.2.2.2.2.1
  · rw [if_pos e]
    have hc := d_eq.cpy ok.2.1 π.1 (hp_D0 π.2.2.2.1 π.2.2.2.2.1 i)
    refine ⟨cnt, cp, hc.sy.ok ok, ((m_D_61 (fun j hj => ?_) ok.2.1).tr he).tr hc.sy⟩
    rw [e]
    exact b1 j hj
  · rw [if_neg e, b2 i (by omega) e]
    unfold hp_D0
    unfold hp_l at hi e
    by_cases e2 : π.2.2.2.2.1 < 10
    · rw [if_pos e2] at hi e
      rw [if_pos e2, if_pos e2]
      exact h3 i (by omega)
    · rw [if_neg e2] at hi e
      rw [if_neg e2, if_neg e2]
      unfold o_rot
      rw [if_pos (show i < 9 by omega), if_pos (show i < 9 by omega)]
      exact h3 (i + 1) (by omega)

theorem c_X9_change {h : s_H} {n m l : Nat} {I w sn tx rp : Nat → Int32} {P : Nat → Nat → Int32} (hP : m_pl h m I w sn P tx rp) (hn : m + 21 ≤ n) (hI : I 3 = nI l) (hl : l ≤ 10) (i f : Nat) (hi : 5 + i * 4 + f < 61) (x : Int32) : s_Mt TX9_change 0 0 [.ref m, .int (nI i), .int (nI f), .int x] h n (s_rp n (fun v9 h1 => v9 = some (.int ((m_D w).1 f i)) ∧ (∃ P1, m_pl h1 m (upd I 3 (nI (hp_l l + 1))) (upd w (5 + i * 4 + f) x) sn P1 tx rp ∧ m_rmb P l w P1) ∧ s_off h h1 m (m + 21)) s_no) := by
  have hM := hP.1
  have hT := hP.2.2.2.2.2.2.2
  have hm := hM.1
  have hw := hM.2
  obtain ⟨pm, hQ⟩ := hP.2.1
  refine s_Mt_of rfl (by decide) (by exact Nat.le_of_ble_eq_true rfl) ?_
  refine g_aload_n dX9_change_0 rfl (by rfl) ?_
  refine g_aload_n dX9_change_1 rfl (by rfl) ?_
  refine g_getf dX9_change_2 fX9_9 (by exact hm) (by omega) (by rfl) ?_
  refine g_callV_p (c_X9_remember hm hQ hw hn (by omega) (by omega) hI hl) dX9_change_5 (mX9_remember) rfl lX9_130 iX9_remember vX9_remember (by decide) (by omega) (by exact hm) rfl rfl rfl rfl (Nat.le_of_ble_eq_true rfl) (fun v9 h9 z9 => ?_)
  obtain ⟨rfl, hm1, ⟨pm1, P1, hQ1, hrb⟩, qoff⟩ := z9
  have hP := hP.rem qoff hm1 ⟨pm1, hQ1⟩
  have hM := hP.1
  have hT := hP.2.2.2.2.2.2.2
  have hoff : s_off h h9 m (m + 21) := qoff.one (by omega) (by omega) (by omega) (by omega)
  have hm := hM.1
  have hw := hM.2
  refine g_aload_n dX9_change_8 rfl (by rfl) ?_
  refine g_iload_n dX9_change_9 rfl (by rfl) ?_
  refine g_iload_n dX9_change_10 rfl (by rfl) ?_
  refine g_callV_e (c_X9_of hM hn i f (by omega)) dX9_change_11 (mX9_of) rfl lX9_73 iX9_of vX9_of (by decide) (by omega) (by exact hm) rfl rfl rfl rfl (Nat.le_of_ble_eq_true rfl) ?_
  refine g_istore dX9_change_14 (by decide) ?_
  refine g_aload_n dX9_change_16 rfl (by rfl) ?_
  refine g_iload_n dX9_change_17 rfl (by rfl) ?_
  refine g_iload_n dX9_change_18 rfl (by rfl) ?_
  refine g_iload_n dX9_change_19 rfl (by rfl) ?_
  refine g_callV_p (c_X9_put hM hn i f (by omega) x) dX9_change_20 (mX9_put) rfl lX9_55 iX9_put vX9_put (by decide) (by omega) (by exact hm) rfl rfl rfl rfl (Nat.le_of_ble_eq_true rfl) (fun v9 h9 z9 => ?_)
  obtain ⟨rfl, hM, qoff⟩ := z9
  have hT := hT.off qoff (by omega)
  have hP := hP.q (qoff.wide (a' := m) (b' := m + 2) (by omega) (by omega)).l2 hM hT
  have hoff := hoff.trans (qoff.wide (a' := m) (b' := m + 21) (by omega) (by omega))
  have hm := hM.1
  have hw := hM.2
  refine g_iload dX9_change_23 (by rfl) ?_
  refine g_ireturn dX9_change_25 rfl ?_
  exact ⟨rfl, rfl, ⟨P1, hP, hrb⟩, hoff⟩

theorem c_M_pin {h : s_H} {n m : Nat} {π : s_Pl} {t : Int32} (hR : m_R h m π t) (hn : m + 21 ≤ n) {cnt cp : Nat} (ok : d_ok π.1 cnt cp) (x : Int32) : s_Mt TX9_pin 0 0 [.ref m, .int x] h n (s_rp n (fun v9 h1 => ((s_in π x ∧ v9 = some (.int (π.1.1 3 x.toNatClampNeg)) ∧ m_R h1 m (d_put π.1 3 x.toNatClampNeg 1, (pl_rem π).2) 0) ∨ (¬ s_in π x ∧ (∃ z, v9 = some (.int z)) ∧ m_R h1 m π 1)) ∧ s_off h h1 m (m + 21)) s_no) := by
  obtain ⟨I, w, sn, P, tx, rp, hP, -, hr1, hrr⟩ := hR
  have hM := hP.1
  have hT := hP.2.2.2.2.2.2.2
  have hm := hM.1
  have hw := hM.2
  have hoff : s_off h h m (m + 21) := s_off.rf
  have he : d_eq cnt (m_D w) π.1 := by
    obtain ⟨c9, p9, o9, e9⟩ := id hr1
    obtain rfl : c9 = cnt := o9.cn.symm.trans ok.cn
    exact e9
  have okm := he.sy.ok ok
  have hc := okm.1
  have h14 := ok.2.1
  have hcp := okm.2.2.1
  have h100 := ok.2.2.2.1
  refine s_Mt_of rfl (by decide) (by exact Nat.le_of_ble_eq_true rfl) ?_
  refine g_aload_n dX9_pin_0 rfl (by rfl) ?_
  refine g_iconst 0 dX9_pin_1 (by rfl) ?_
  refine g_putf' dX9_pin_2 pX9_59 (by exact hm) (by omega) (by exact Nat.le_of_ble_eq_true rfl) (by rfl) (by rfl) (fun h31 e31 => ?_)
  first | have hm_31 := s_up_off e31 (by omega) hm | have hm_31 := s_up_at e31
  first | have hw_31 := s_up_off e31 (by omega) hw | have hw_31 := s_up_at e31
  have hM := hM.th e31
  have qoff : s_off _ h31 m (m + 1) := s_off.rf.up e31 (by omega)
  have hT := hT.off qoff (by omega)
  have hP := hP.q (qoff.wide (a' := m) (b' := m + 2) (by omega) (by omega)).l2 hM hT
  have hoff := hoff.trans (qoff.wide (a' := m) (b' := m + 21) (by omega) (by omega))
  have hm := hM.1
  have hw := hM.2
  refine g_aload_n dX9_pin_5 rfl (by rfl) ?_
  refine g_iload_n dX9_pin_6 rfl (by rfl) ?_
  refine g_callV_p (c_X9_noItem hM hn hc h14 x) dX9_pin_7 (mX9_noItem) rfl lX9_134 iX9_noItem vX9_noItem (by decide) (by omega) (by exact hm) rfl rfl rfl rfl (Nat.le_of_ble_eq_true rfl) (fun v9 h9 z9 => ?_)
  obtain ⟨rfl, hM, qoff⟩ := z9
  have hT := hT.off qoff (by omega)
  have hP := hP.q (qoff.wide (a' := m) (b' := m + 2) (by omega) (by omega)).l2 hM hT
  have hoff := hoff.trans (qoff.wide (a' := m) (b' := m + 21) (by omega) (by omega))
  refine g_if_eq (tgt := 17) dX9_pin_10 (by decide) (fun c_10 => ?_) (fun c_10 => ?_)
  · have hin : ¬ x < 0 ∧ x < nI cnt := Classical.byContradiction fun z => by rw [if_neg z] at c_10; exact absurd c_10 (by decide)
    rw [if_pos hin] at hM hP
    have hin : s_in π x := by unfold s_in; rw [ok.1]; exact hin
    obtain ⟨i, rfl, hi⟩ := hin.nat ok
    have hm := hM.1
    have hw := hM.2
    refine g_aload_n dX9_pin_17 rfl (by rfl) ?_
    refine g_iload_n dX9_pin_18 rfl (by rfl) ?_
    refine g_iconst (nI 3) dX9_pin_19 (by rfl) ?_
    refine g_iconst (nI 1) dX9_pin_20 (by rfl) ?_
    refine g_callV_p (c_X9_change hP hn (l := π.2.2.2.2.1) (show upd I 0 0 3 = nI π.2.2.2.2.1 from hrr.2.1.2.1) hrr.2.1.1 i 3 (by omega) (nI 1)) dX9_pin_21 (mX9_change) rfl lX9_141 iX9_change vX9_change (by decide) (by omega) (by exact hm) rfl rfl rfl rfl (Nat.le_of_ble_eq_true rfl) (fun v9 h9 z9 => ?_)
    obtain ⟨rfl, ⟨P1, hP, hrb⟩, qoff⟩ := z9
    have hM := hP.1
    have hr3 := m_r3_rem (x := 0) hr1 hrr.2.1 hrb
    have hoff := hoff.trans qoff
    have hm := hM.1
    have hw := hM.2
    refine g_ireturn dX9_pin_24 rfl ?_
    first | (refine ⟨rfl, Or.inl ⟨hin, ?_, (by rw [nI_clamp (by omega)]; exact ⟨_, _, _, _, _, _, hP, rfl, ⟨cnt, cp, ok.put3 (st := 1) (by omega), (m_D_put (by omega)).tr (he.put (by omega))⟩, hrr.1, hr3, hrr.2.2⟩)⟩, hoff⟩; (rw [nI_clamp (by omega)]; exact congrArg (fun x => some (Value.int x)) (he.2 3 (by omega) i hi))) | exact ⟨rfl, Or.inr ⟨hin, ⟨_, rfl⟩, ⟨_, _, _, _, _, _, hP, rfl, hr1, hrr⟩⟩, hoff⟩
  · have hno : ¬ (¬ x < 0 ∧ x < nI cnt) := fun z => c_10 (by rw [if_pos z])
    rw [if_neg hno] at hM hP
    have hin : ¬ s_in π x := by unfold s_in; rw [ok.1]; exact hno
    have hm := hM.1
    have hw := hM.2
    refine g_iconst 0 dX9_pin_13 (by rfl) ?_
    refine g_goto (tgt := 24) dX9_pin_14 (by decide) ?_
    refine g_ireturn dX9_pin_24 rfl ?_
    first | (refine ⟨rfl, Or.inl ⟨hin, ?_, (by rw [nI_clamp (by omega)]; exact ⟨_, _, _, _, _, _, hP, rfl, ⟨cnt, cp, ok.put3 (st := 1) (by omega), (m_D_put (by omega)).tr (he.put (by omega))⟩, hrr.1, hr3, hrr.2.2⟩)⟩, hoff⟩; (rw [nI_clamp (by omega)]; exact congrArg (fun x => some (Value.int x)) (he.2 3 (by omega) i hi))) | exact ⟨rfl, Or.inr ⟨hin, ⟨_, rfl⟩, ⟨_, _, _, _, _, _, hP, rfl, hr1, hrr⟩⟩, hoff⟩

theorem c_M_exclude {h : s_H} {n m : Nat} {π : s_Pl} {t : Int32} (hR : m_R h m π t) (hn : m + 21 ≤ n) {cnt cp : Nat} (ok : d_ok π.1 cnt cp) (x : Int32) : s_Mt TX9_exclude 0 0 [.ref m, .int x] h n (s_rp n (fun v9 h1 => ((s_in π x ∧ v9 = some (.int (π.1.1 3 x.toNatClampNeg)) ∧ m_R h1 m (d_put π.1 3 x.toNatClampNeg 2, (pl_rem π).2) 0) ∨ (¬ s_in π x ∧ (∃ z, v9 = some (.int z)) ∧ m_R h1 m π 1)) ∧ s_off h h1 m (m + 21)) s_no) := by
  obtain ⟨I, w, sn, P, tx, rp, hP, -, hr1, hrr⟩ := hR
  have hM := hP.1
  have hT := hP.2.2.2.2.2.2.2
  have hm := hM.1
  have hw := hM.2
  have hoff : s_off h h m (m + 21) := s_off.rf
  have he : d_eq cnt (m_D w) π.1 := by
    obtain ⟨c9, p9, o9, e9⟩ := id hr1
    obtain rfl : c9 = cnt := o9.cn.symm.trans ok.cn
    exact e9
  have okm := he.sy.ok ok
  have hc := okm.1
  have h14 := ok.2.1
  have hcp := okm.2.2.1
  have h100 := ok.2.2.2.1
  refine s_Mt_of rfl (by decide) (by exact Nat.le_of_ble_eq_true rfl) ?_
  refine g_aload_n dX9_exclude_0 rfl (by rfl) ?_
  refine g_iconst 0 dX9_exclude_1 (by rfl) ?_
  refine g_putf' dX9_exclude_2 pX9_59 (by exact hm) (by omega) (by exact Nat.le_of_ble_eq_true rfl) (by rfl) (by rfl) (fun h31 e31 => ?_)
  first | have hm_31 := s_up_off e31 (by omega) hm | have hm_31 := s_up_at e31
  first | have hw_31 := s_up_off e31 (by omega) hw | have hw_31 := s_up_at e31
  have hM := hM.th e31
  have qoff : s_off _ h31 m (m + 1) := s_off.rf.up e31 (by omega)
  have hT := hT.off qoff (by omega)
  have hP := hP.q (qoff.wide (a' := m) (b' := m + 2) (by omega) (by omega)).l2 hM hT
  have hoff := hoff.trans (qoff.wide (a' := m) (b' := m + 21) (by omega) (by omega))
  have hm := hM.1
  have hw := hM.2
  refine g_aload_n dX9_exclude_5 rfl (by rfl) ?_
  refine g_iload_n dX9_exclude_6 rfl (by rfl) ?_
  refine g_callV_p (c_X9_noItem hM hn hc h14 x) dX9_exclude_7 (mX9_noItem) rfl lX9_134 iX9_noItem vX9_noItem (by decide) (by omega) (by exact hm) rfl rfl rfl rfl (Nat.le_of_ble_eq_true rfl) (fun v9 h9 z9 => ?_)
  obtain ⟨rfl, hM, qoff⟩ := z9
  have hT := hT.off qoff (by omega)
  have hP := hP.q (qoff.wide (a' := m) (b' := m + 2) (by omega) (by omega)).l2 hM hT
  have hoff := hoff.trans (qoff.wide (a' := m) (b' := m + 21) (by omega) (by omega))
  refine g_if_eq (tgt := 17) dX9_exclude_10 (by decide) (fun c_10 => ?_) (fun c_10 => ?_)
  · have hin : ¬ x < 0 ∧ x < nI cnt := Classical.byContradiction fun z => by rw [if_neg z] at c_10; exact absurd c_10 (by decide)
    rw [if_pos hin] at hM hP
    have hin : s_in π x := by unfold s_in; rw [ok.1]; exact hin
    obtain ⟨i, rfl, hi⟩ := hin.nat ok
    have hm := hM.1
    have hw := hM.2
    refine g_aload_n dX9_exclude_17 rfl (by rfl) ?_
    refine g_iload_n dX9_exclude_18 rfl (by rfl) ?_
    refine g_iconst (nI 3) dX9_exclude_19 (by rfl) ?_
    refine g_iconst (nI 2) dX9_exclude_20 (by rfl) ?_
    refine g_callV_p (c_X9_change hP hn (l := π.2.2.2.2.1) (show upd I 0 0 3 = nI π.2.2.2.2.1 from hrr.2.1.2.1) hrr.2.1.1 i 3 (by omega) (nI 2)) dX9_exclude_21 (mX9_change) rfl lX9_141 iX9_change vX9_change (by decide) (by omega) (by exact hm) rfl rfl rfl rfl (Nat.le_of_ble_eq_true rfl) (fun v9 h9 z9 => ?_)
    obtain ⟨rfl, ⟨P1, hP, hrb⟩, qoff⟩ := z9
    have hM := hP.1
    have hr3 := m_r3_rem (x := 0) hr1 hrr.2.1 hrb
    have hoff := hoff.trans qoff
    have hm := hM.1
    have hw := hM.2
    refine g_ireturn dX9_exclude_24 rfl ?_
    first | (refine ⟨rfl, Or.inl ⟨hin, ?_, (by rw [nI_clamp (by omega)]; exact ⟨_, _, _, _, _, _, hP, rfl, ⟨cnt, cp, ok.put3 (st := 2) (by omega), (m_D_put (by omega)).tr (he.put (by omega))⟩, hrr.1, hr3, hrr.2.2⟩)⟩, hoff⟩; (rw [nI_clamp (by omega)]; exact congrArg (fun x => some (Value.int x)) (he.2 3 (by omega) i hi))) | exact ⟨rfl, Or.inr ⟨hin, ⟨_, rfl⟩, ⟨_, _, _, _, _, _, hP, rfl, hr1, hrr⟩⟩, hoff⟩
  · have hno : ¬ (¬ x < 0 ∧ x < nI cnt) := fun z => c_10 (by rw [if_pos z])
    rw [if_neg hno] at hM hP
    have hin : ¬ s_in π x := by unfold s_in; rw [ok.1]; exact hno
    have hm := hM.1
    have hw := hM.2
    refine g_iconst 0 dX9_exclude_13 (by rfl) ?_
    refine g_goto (tgt := 24) dX9_exclude_14 (by decide) ?_
    refine g_ireturn dX9_exclude_24 rfl ?_
    first | (refine ⟨rfl, Or.inl ⟨hin, ?_, (by rw [nI_clamp (by omega)]; exact ⟨_, _, _, _, _, _, hP, rfl, ⟨cnt, cp, ok.put3 (st := 2) (by omega), (m_D_put (by omega)).tr (he.put (by omega))⟩, hrr.1, hr3, hrr.2.2⟩)⟩, hoff⟩; (rw [nI_clamp (by omega)]; exact congrArg (fun x => some (Value.int x)) (he.2 3 (by omega) i hi))) | exact ⟨rfl, Or.inr ⟨hin, ⟨_, rfl⟩, ⟨_, _, _, _, _, _, hP, rfl, hr1, hrr⟩⟩, hoff⟩

theorem c_M_release {h : s_H} {n m : Nat} {π : s_Pl} {t : Int32} (hR : m_R h m π t) (hn : m + 21 ≤ n) {cnt cp : Nat} (ok : d_ok π.1 cnt cp) (x : Int32) : s_Mt TX9_release 0 0 [.ref m, .int x] h n (s_rp n (fun v9 h1 => ((s_in π x ∧ v9 = some (.int (π.1.1 3 x.toNatClampNeg)) ∧ m_R h1 m (d_put π.1 3 x.toNatClampNeg 0, (pl_rem π).2) 0) ∨ (¬ s_in π x ∧ (∃ z, v9 = some (.int z)) ∧ m_R h1 m π 1)) ∧ s_off h h1 m (m + 21)) s_no) := by
  obtain ⟨I, w, sn, P, tx, rp, hP, -, hr1, hrr⟩ := hR
  have hM := hP.1
  have hT := hP.2.2.2.2.2.2.2
  have hm := hM.1
  have hw := hM.2
  have hoff : s_off h h m (m + 21) := s_off.rf
  have he : d_eq cnt (m_D w) π.1 := by
    obtain ⟨c9, p9, o9, e9⟩ := id hr1
    obtain rfl : c9 = cnt := o9.cn.symm.trans ok.cn
    exact e9
  have okm := he.sy.ok ok
  have hc := okm.1
  have h14 := ok.2.1
  have hcp := okm.2.2.1
  have h100 := ok.2.2.2.1
  refine s_Mt_of rfl (by decide) (by exact Nat.le_of_ble_eq_true rfl) ?_
  refine g_aload_n dX9_release_0 rfl (by rfl) ?_
  refine g_iconst 0 dX9_release_1 (by rfl) ?_
  refine g_putf' dX9_release_2 pX9_59 (by exact hm) (by omega) (by exact Nat.le_of_ble_eq_true rfl) (by rfl) (by rfl) (fun h31 e31 => ?_)
  first | have hm_31 := s_up_off e31 (by omega) hm | have hm_31 := s_up_at e31
  first | have hw_31 := s_up_off e31 (by omega) hw | have hw_31 := s_up_at e31
  have hM := hM.th e31
  have qoff : s_off _ h31 m (m + 1) := s_off.rf.up e31 (by omega)
  have hT := hT.off qoff (by omega)
  have hP := hP.q (qoff.wide (a' := m) (b' := m + 2) (by omega) (by omega)).l2 hM hT
  have hoff := hoff.trans (qoff.wide (a' := m) (b' := m + 21) (by omega) (by omega))
  have hm := hM.1
  have hw := hM.2
  refine g_aload_n dX9_release_5 rfl (by rfl) ?_
  refine g_iload_n dX9_release_6 rfl (by rfl) ?_
  refine g_callV_p (c_X9_noItem hM hn hc h14 x) dX9_release_7 (mX9_noItem) rfl lX9_134 iX9_noItem vX9_noItem (by decide) (by omega) (by exact hm) rfl rfl rfl rfl (Nat.le_of_ble_eq_true rfl) (fun v9 h9 z9 => ?_)
  obtain ⟨rfl, hM, qoff⟩ := z9
  have hT := hT.off qoff (by omega)
  have hP := hP.q (qoff.wide (a' := m) (b' := m + 2) (by omega) (by omega)).l2 hM hT
  have hoff := hoff.trans (qoff.wide (a' := m) (b' := m + 21) (by omega) (by omega))
  refine g_if_eq (tgt := 17) dX9_release_10 (by decide) (fun c_10 => ?_) (fun c_10 => ?_)
  · have hin : ¬ x < 0 ∧ x < nI cnt := Classical.byContradiction fun z => by rw [if_neg z] at c_10; exact absurd c_10 (by decide)
    rw [if_pos hin] at hM hP
    have hin : s_in π x := by unfold s_in; rw [ok.1]; exact hin
    obtain ⟨i, rfl, hi⟩ := hin.nat ok
    have hm := hM.1
    have hw := hM.2
    refine g_aload_n dX9_release_17 rfl (by rfl) ?_
    refine g_iload_n dX9_release_18 rfl (by rfl) ?_
    refine g_iconst (nI 3) dX9_release_19 (by rfl) ?_
    refine g_iconst (nI 0) dX9_release_20 (by rfl) ?_
    refine g_callV_p (c_X9_change hP hn (l := π.2.2.2.2.1) (show upd I 0 0 3 = nI π.2.2.2.2.1 from hrr.2.1.2.1) hrr.2.1.1 i 3 (by omega) (nI 0)) dX9_release_21 (mX9_change) rfl lX9_141 iX9_change vX9_change (by decide) (by omega) (by exact hm) rfl rfl rfl rfl (Nat.le_of_ble_eq_true rfl) (fun v9 h9 z9 => ?_)
    obtain ⟨rfl, ⟨P1, hP, hrb⟩, qoff⟩ := z9
    have hM := hP.1
    have hr3 := m_r3_rem (x := 0) hr1 hrr.2.1 hrb
    have hoff := hoff.trans qoff
    have hm := hM.1
    have hw := hM.2
    refine g_ireturn dX9_release_24 rfl ?_
    first | (refine ⟨rfl, Or.inl ⟨hin, ?_, (by rw [nI_clamp (by omega)]; exact ⟨_, _, _, _, _, _, hP, rfl, ⟨cnt, cp, ok.put3 (st := 0) (by omega), (m_D_put (by omega)).tr (he.put (by omega))⟩, hrr.1, hr3, hrr.2.2⟩)⟩, hoff⟩; (rw [nI_clamp (by omega)]; exact congrArg (fun x => some (Value.int x)) (he.2 3 (by omega) i hi))) | exact ⟨rfl, Or.inr ⟨hin, ⟨_, rfl⟩, ⟨_, _, _, _, _, _, hP, rfl, hr1, hrr⟩⟩, hoff⟩
  · have hno : ¬ (¬ x < 0 ∧ x < nI cnt) := fun z => c_10 (by rw [if_pos z])
    rw [if_neg hno] at hM hP
    have hin : ¬ s_in π x := by unfold s_in; rw [ok.1]; exact hno
    have hm := hM.1
    have hw := hM.2
    refine g_iconst 0 dX9_release_13 (by rfl) ?_
    refine g_goto (tgt := 24) dX9_release_14 (by decide) ?_
    refine g_ireturn dX9_release_24 rfl ?_
    first | (refine ⟨rfl, Or.inl ⟨hin, ?_, (by rw [nI_clamp (by omega)]; exact ⟨_, _, _, _, _, _, hP, rfl, ⟨cnt, cp, ok.put3 (st := 0) (by omega), (m_D_put (by omega)).tr (he.put (by omega))⟩, hrr.1, hr3, hrr.2.2⟩)⟩, hoff⟩; (rw [nI_clamp (by omega)]; exact congrArg (fun x => some (Value.int x)) (he.2 3 (by omega) i hi))) | exact ⟨rfl, Or.inr ⟨hin, ⟨_, rfl⟩, ⟨_, _, _, _, _, _, hP, rfl, hr1, hrr⟩⟩, hoff⟩

theorem c_M_setSize {h : s_H} {n m : Nat} {π : s_Pl} {t : Int32} (hR : m_R h m π t) (hn : m + 21 ≤ n) {cnt cp : Nat} (ok : d_ok π.1 cnt cp) (x y : Int32) : s_Mt TX9_setSize 0 0 [.ref m, .int x, .int y] h n (s_rp n (fun v9 h1 => (((s_in π x ∧ ¬ (y < 1 ∨ 60 < y)) ∧ v9 = some (.int (π.1.1 0 x.toNatClampNeg)) ∧ m_R h1 m (d_put π.1 0 x.toNatClampNeg y, (pl_rem π).2) 0) ∨ (¬ s_in π x ∧ (∃ z, v9 = some (.int z)) ∧ m_R h1 m π 1) ∨ ((s_in π x ∧ ¬ ¬ (y < 1 ∨ 60 < y)) ∧ (∃ z, v9 = some (.int z)) ∧ m_R h1 m π 2)) ∧ s_off h h1 m (m + 21)) s_no) := by
  obtain ⟨I, w, sn, P, tx, rp, hP, -, hr1, hrr⟩ := hR
  have hM := hP.1
  have hT := hP.2.2.2.2.2.2.2
  have hm := hM.1
  have hw := hM.2
  have hoff : s_off h h m (m + 21) := s_off.rf
  have he : d_eq cnt (m_D w) π.1 := by
    obtain ⟨c9, p9, o9, e9⟩ := id hr1
    obtain rfl : c9 = cnt := o9.cn.symm.trans ok.cn
    exact e9
  have okm := he.sy.ok ok
  have hc := okm.1
  have h14 := ok.2.1
  have hcp := okm.2.2.1
  have h100 := ok.2.2.2.1
  refine s_Mt_of rfl (by decide) (by exact Nat.le_of_ble_eq_true rfl) ?_
  refine g_aload_n dX9_setSize_0 rfl (by rfl) ?_
  refine g_iconst 0 dX9_setSize_1 (by rfl) ?_
  refine g_putf' dX9_setSize_2 pX9_59 (by exact hm) (by omega) (by exact Nat.le_of_ble_eq_true rfl) (by rfl) (by rfl) (fun h31 e31 => ?_)
  first | have hm_31 := s_up_off e31 (by omega) hm | have hm_31 := s_up_at e31
  first | have hw_31 := s_up_off e31 (by omega) hw | have hw_31 := s_up_at e31
  have hM := hM.th e31
  have qoff : s_off _ h31 m (m + 1) := s_off.rf.up e31 (by omega)
  have hT := hT.off qoff (by omega)
  have hP := hP.q (qoff.wide (a' := m) (b' := m + 2) (by omega) (by omega)).l2 hM hT
  have hoff := hoff.trans (qoff.wide (a' := m) (b' := m + 21) (by omega) (by omega))
  have hm := hM.1
  have hw := hM.2
  refine g_aload_n dX9_setSize_5 rfl (by rfl) ?_
  refine g_iload_n dX9_setSize_6 rfl (by rfl) ?_
  refine g_callV_p (c_X9_noItem hM hn hc h14 x) dX9_setSize_7 (mX9_noItem) rfl lX9_134 iX9_noItem vX9_noItem (by decide) (by omega) (by exact hm) rfl rfl rfl rfl (Nat.le_of_ble_eq_true rfl) (fun v9 h9 z9 => ?_)
  obtain ⟨rfl, hM, qoff⟩ := z9
  have hT := hT.off qoff (by omega)
  have hP := hP.q (qoff.wide (a' := m) (b' := m + 2) (by omega) (by omega)).l2 hM hT
  have hoff := hoff.trans (qoff.wide (a' := m) (b' := m + 21) (by omega) (by omega))
  refine g_if_ne (tgt := 25) dX9_setSize_10 (by decide) (fun c_10 => ?_) (fun c_10 => ?_)
  · have hno : ¬ (¬ x < 0 ∧ x < nI cnt) := fun z => c_10 (by rw [if_pos z])
    rw [if_neg hno] at hM hP
    have hin : ¬ s_in π x := by unfold s_in; rw [ok.1]; exact hno
    have hm := hM.1
    have hw := hM.2
    refine g_iconst 0 dX9_setSize_25 (by rfl) ?_
    refine g_goto (tgt := 36) dX9_setSize_26 (by decide) ?_
    refine g_ireturn dX9_setSize_36 rfl ?_
    first | (refine ⟨rfl, Or.inl ⟨⟨hin, hin2⟩, ?_, (by rw [nI_clamp (by omega)]; exact ⟨_, _, _, _, _, _, hP, rfl, ⟨cnt, cp, ok.put0 hbl hbh, (m_D_put (by omega)).tr (he.put (by omega))⟩, hrr.1, hr3, hrr.2.2⟩)⟩, hoff⟩; (rw [nI_clamp (by omega)]; exact congrArg (fun x => some (Value.int x)) (he.2 0 (by omega) i hi))) | exact ⟨rfl, Or.inr (Or.inr ⟨⟨hin, hbad⟩, ⟨_, rfl⟩, ⟨_, _, _, _, _, _, hP, rfl, hr1, hrr⟩⟩), hoff⟩ | exact ⟨rfl, Or.inr (Or.inl ⟨hin, ⟨_, rfl⟩, ⟨_, _, _, _, _, _, hP, rfl, hr1, hrr⟩⟩), hoff⟩
  · have hin : ¬ x < 0 ∧ x < nI cnt := Classical.byContradiction fun z => by rw [if_neg z] at c_10; exact absurd c_10 (by decide)
    rw [if_pos hin] at hM hP
    have hin : s_in π x := by unfold s_in; rw [ok.1]; exact hin
    obtain ⟨i, rfl, hi⟩ := hin.nat ok
    have hm := hM.1
    have hw := hM.2
    refine g_aload_n dX9_setSize_13 rfl (by rfl) ?_
    refine g_iload_n dX9_setSize_14 rfl (by rfl) ?_
    refine g_iconst 1 dX9_setSize_15 (by rfl) ?_
    refine g_bipush 60 dX9_setSize_16 (by rfl) ?_
    refine g_iconst 2 dX9_setSize_18 (by rfl) ?_
    refine g_callV_p (c_X9_outside hM hn y 1 60 2) dX9_setSize_19 (mX9_outside) rfl lX9_69 iX9_outside vX9_outside (by decide) (by omega) (by exact hm) rfl rfl rfl rfl (Nat.le_of_ble_eq_true rfl) (fun v9 h9 z9 => ?_)
    obtain ⟨rfl, hM, qoff⟩ := z9
    have hT := hT.off qoff (by omega)
    have hP := hP.q (qoff.wide (a' := m) (b' := m + 2) (by omega) (by omega)).l2 hM hT
    have hoff := hoff.trans (qoff.wide (a' := m) (b' := m + 21) (by omega) (by omega))
    refine g_if_eq (tgt := 29) dX9_setSize_22 (by decide) (fun c_22 => ?_) (fun c_22 => ?_)
    · have hin2 : ¬ (y < 1 ∨ 60 < y) := fun z => by rw [if_pos z] at c_22; exact absurd c_22 (by decide)
      rw [if_neg hin2] at hM hP
      obtain ⟨b, hb9, rfl⟩ := nI_of (x := y) (fun z => hin2 (Or.inl (by first | exact z | (rw [Int32.lt_iff_toInt_lt] at z ⊢; exact Int.lt_trans z (by decide)))))
      have hbh : b ≤ 60 := Nat.le_of_not_lt fun z => hin2 (Or.inr (nI_lt z hb9))
      have hbl : 1 ≤ b := Nat.le_of_not_lt fun z => hin2 (Or.inl (nI_lt (b := 1) z (by omega)))
      have hm := hM.1
      have hw := hM.2
      refine g_aload_n dX9_setSize_29 rfl (by rfl) ?_
      refine g_iload_n dX9_setSize_30 rfl (by rfl) ?_
      refine g_iconst (nI 0) dX9_setSize_31 (by rfl) ?_
      refine g_iload_n dX9_setSize_32 rfl (by rfl) ?_
      refine g_callV_p (c_X9_change hP hn (l := π.2.2.2.2.1) (show upd I 0 0 3 = nI π.2.2.2.2.1 from hrr.2.1.2.1) hrr.2.1.1 i 0 (by omega) (nI b)) dX9_setSize_33 (mX9_change) rfl lX9_141 iX9_change vX9_change (by decide) (by omega) (by exact hm) rfl rfl rfl rfl (Nat.le_of_ble_eq_true rfl) (fun v9 h9 z9 => ?_)
      obtain ⟨rfl, ⟨P1, hP, hrb⟩, qoff⟩ := z9
      have hM := hP.1
      have hr3 := m_r3_rem (x := 0) hr1 hrr.2.1 hrb
      have hoff := hoff.trans qoff
      have hm := hM.1
      have hw := hM.2
      refine g_ireturn dX9_setSize_36 rfl ?_
      first | (refine ⟨rfl, Or.inl ⟨⟨hin, hin2⟩, ?_, (by rw [nI_clamp (by omega)]; exact ⟨_, _, _, _, _, _, hP, rfl, ⟨cnt, cp, ok.put0 hbl hbh, (m_D_put (by omega)).tr (he.put (by omega))⟩, hrr.1, hr3, hrr.2.2⟩)⟩, hoff⟩; (rw [nI_clamp (by omega)]; exact congrArg (fun x => some (Value.int x)) (he.2 0 (by omega) i hi))) | exact ⟨rfl, Or.inr (Or.inr ⟨⟨hin, hbad⟩, ⟨_, rfl⟩, ⟨_, _, _, _, _, _, hP, rfl, hr1, hrr⟩⟩), hoff⟩ | exact ⟨rfl, Or.inr (Or.inl ⟨hin, ⟨_, rfl⟩, ⟨_, _, _, _, _, _, hP, rfl, hr1, hrr⟩⟩), hoff⟩
    · have hno2 : y < 1 ∨ 60 < y := Classical.byContradiction fun z => c_22 (by rw [if_neg z])
      rw [if_pos hno2] at hM hP
      have hbad : ¬ ¬ (y < 1 ∨ 60 < y) := fun z => z hno2
      have hm := hM.1
      have hw := hM.2
      refine g_iconst 0 dX9_setSize_25 (by rfl) ?_
      refine g_goto (tgt := 36) dX9_setSize_26 (by decide) ?_
      refine g_ireturn dX9_setSize_36 rfl ?_
      first | (refine ⟨rfl, Or.inl ⟨⟨hin, hin2⟩, ?_, (by rw [nI_clamp (by omega)]; exact ⟨_, _, _, _, _, _, hP, rfl, ⟨cnt, cp, ok.put0 hbl hbh, (m_D_put (by omega)).tr (he.put (by omega))⟩, hrr.1, hr3, hrr.2.2⟩)⟩, hoff⟩; (rw [nI_clamp (by omega)]; exact congrArg (fun x => some (Value.int x)) (he.2 0 (by omega) i hi))) | exact ⟨rfl, Or.inr (Or.inr ⟨⟨hin, hbad⟩, ⟨_, rfl⟩, ⟨_, _, _, _, _, _, hP, rfl, hr1, hrr⟩⟩), hoff⟩ | exact ⟨rfl, Or.inr (Or.inl ⟨hin, ⟨_, rfl⟩, ⟨_, _, _, _, _, _, hP, rfl, hr1, hrr⟩⟩), hoff⟩

theorem c_M_setValue {h : s_H} {n m : Nat} {π : s_Pl} {t : Int32} (hR : m_R h m π t) (hn : m + 21 ≤ n) {cnt cp : Nat} (ok : d_ok π.1 cnt cp) (x y : Int32) : s_Mt TX9_setValue 0 0 [.ref m, .int x, .int y] h n (s_rp n (fun v9 h1 => (((s_in π x ∧ ¬ (y < 0 ∨ 999 < y)) ∧ v9 = some (.int (π.1.1 1 x.toNatClampNeg)) ∧ m_R h1 m (d_put π.1 1 x.toNatClampNeg y, (pl_rem π).2) 0) ∨ (¬ s_in π x ∧ (∃ z, v9 = some (.int z)) ∧ m_R h1 m π 1) ∨ ((s_in π x ∧ ¬ ¬ (y < 0 ∨ 999 < y)) ∧ (∃ z, v9 = some (.int z)) ∧ m_R h1 m π 2)) ∧ s_off h h1 m (m + 21)) s_no) := by
  obtain ⟨I, w, sn, P, tx, rp, hP, -, hr1, hrr⟩ := hR
  have hM := hP.1
  have hT := hP.2.2.2.2.2.2.2
  have hm := hM.1
  have hw := hM.2
  have hoff : s_off h h m (m + 21) := s_off.rf
  have he : d_eq cnt (m_D w) π.1 := by
    obtain ⟨c9, p9, o9, e9⟩ := id hr1
    obtain rfl : c9 = cnt := o9.cn.symm.trans ok.cn
    exact e9
  have okm := he.sy.ok ok
  have hc := okm.1
  have h14 := ok.2.1
  have hcp := okm.2.2.1
  have h100 := ok.2.2.2.1
  refine s_Mt_of rfl (by decide) (by exact Nat.le_of_ble_eq_true rfl) ?_
  refine g_aload_n dX9_setValue_0 rfl (by rfl) ?_
  refine g_iconst 0 dX9_setValue_1 (by rfl) ?_
  refine g_putf' dX9_setValue_2 pX9_59 (by exact hm) (by omega) (by exact Nat.le_of_ble_eq_true rfl) (by rfl) (by rfl) (fun h31 e31 => ?_)
  first | have hm_31 := s_up_off e31 (by omega) hm | have hm_31 := s_up_at e31
  first | have hw_31 := s_up_off e31 (by omega) hw | have hw_31 := s_up_at e31
  have hM := hM.th e31
  have qoff : s_off _ h31 m (m + 1) := s_off.rf.up e31 (by omega)
  have hT := hT.off qoff (by omega)
  have hP := hP.q (qoff.wide (a' := m) (b' := m + 2) (by omega) (by omega)).l2 hM hT
  have hoff := hoff.trans (qoff.wide (a' := m) (b' := m + 21) (by omega) (by omega))
  have hm := hM.1
  have hw := hM.2
  refine g_aload_n dX9_setValue_5 rfl (by rfl) ?_
  refine g_iload_n dX9_setValue_6 rfl (by rfl) ?_
  refine g_callV_p (c_X9_noItem hM hn hc h14 x) dX9_setValue_7 (mX9_noItem) rfl lX9_134 iX9_noItem vX9_noItem (by decide) (by omega) (by exact hm) rfl rfl rfl rfl (Nat.le_of_ble_eq_true rfl) (fun v9 h9 z9 => ?_)
  obtain ⟨rfl, hM, qoff⟩ := z9
  have hT := hT.off qoff (by omega)
  have hP := hP.q (qoff.wide (a' := m) (b' := m + 2) (by omega) (by omega)).l2 hM hT
  have hoff := hoff.trans (qoff.wide (a' := m) (b' := m + 21) (by omega) (by omega))
  refine g_if_ne (tgt := 26) dX9_setValue_10 (by decide) (fun c_10 => ?_) (fun c_10 => ?_)
  · have hno : ¬ (¬ x < 0 ∧ x < nI cnt) := fun z => c_10 (by rw [if_pos z])
    rw [if_neg hno] at hM hP
    have hin : ¬ s_in π x := by unfold s_in; rw [ok.1]; exact hno
    have hm := hM.1
    have hw := hM.2
    refine g_iconst 0 dX9_setValue_26 (by rfl) ?_
    refine g_goto (tgt := 37) dX9_setValue_27 (by decide) ?_
    refine g_ireturn dX9_setValue_37 rfl ?_
    first | (refine ⟨rfl, Or.inl ⟨⟨hin, hin2⟩, ?_, (by rw [nI_clamp (by omega)]; exact ⟨_, _, _, _, _, _, hP, rfl, ⟨cnt, cp, ok.put1 hbh, (m_D_put (by omega)).tr (he.put (by omega))⟩, hrr.1, hr3, hrr.2.2⟩)⟩, hoff⟩; (rw [nI_clamp (by omega)]; exact congrArg (fun x => some (Value.int x)) (he.2 1 (by omega) i hi))) | exact ⟨rfl, Or.inr (Or.inr ⟨⟨hin, hbad⟩, ⟨_, rfl⟩, ⟨_, _, _, _, _, _, hP, rfl, hr1, hrr⟩⟩), hoff⟩ | exact ⟨rfl, Or.inr (Or.inl ⟨hin, ⟨_, rfl⟩, ⟨_, _, _, _, _, _, hP, rfl, hr1, hrr⟩⟩), hoff⟩
  · have hin : ¬ x < 0 ∧ x < nI cnt := Classical.byContradiction fun z => by rw [if_neg z] at c_10; exact absurd c_10 (by decide)
    rw [if_pos hin] at hM hP
    have hin : s_in π x := by unfold s_in; rw [ok.1]; exact hin
    obtain ⟨i, rfl, hi⟩ := hin.nat ok
    have hm := hM.1
    have hw := hM.2
    refine g_aload_n dX9_setValue_13 rfl (by rfl) ?_
    refine g_iload_n dX9_setValue_14 rfl (by rfl) ?_
    refine g_iconst 0 dX9_setValue_15 (by rfl) ?_
    refine g_sipush 999 dX9_setValue_16 (by rfl) ?_
    refine g_iconst 2 dX9_setValue_19 (by rfl) ?_
    refine g_callV_p (c_X9_outside hM hn y 0 999 2) dX9_setValue_20 (mX9_outside) rfl lX9_69 iX9_outside vX9_outside (by decide) (by omega) (by exact hm) rfl rfl rfl rfl (Nat.le_of_ble_eq_true rfl) (fun v9 h9 z9 => ?_)
    obtain ⟨rfl, hM, qoff⟩ := z9
    have hT := hT.off qoff (by omega)
    have hP := hP.q (qoff.wide (a' := m) (b' := m + 2) (by omega) (by omega)).l2 hM hT
    have hoff := hoff.trans (qoff.wide (a' := m) (b' := m + 21) (by omega) (by omega))
    refine g_if_eq (tgt := 30) dX9_setValue_23 (by decide) (fun c_23 => ?_) (fun c_23 => ?_)
    · have hin2 : ¬ (y < 0 ∨ 999 < y) := fun z => by rw [if_pos z] at c_23; exact absurd c_23 (by decide)
      rw [if_neg hin2] at hM hP
      obtain ⟨b, hb9, rfl⟩ := nI_of (x := y) (fun z => hin2 (Or.inl (by first | exact z | (rw [Int32.lt_iff_toInt_lt] at z ⊢; exact Int.lt_trans z (by decide)))))
      have hbh : b ≤ 999 := Nat.le_of_not_lt fun z => hin2 (Or.inr (nI_lt z hb9))
      have hm := hM.1
      have hw := hM.2
      refine g_aload_n dX9_setValue_30 rfl (by rfl) ?_
      refine g_iload_n dX9_setValue_31 rfl (by rfl) ?_
      refine g_iconst (nI 1) dX9_setValue_32 (by rfl) ?_
      refine g_iload_n dX9_setValue_33 rfl (by rfl) ?_
      refine g_callV_p (c_X9_change hP hn (l := π.2.2.2.2.1) (show upd I 0 0 3 = nI π.2.2.2.2.1 from hrr.2.1.2.1) hrr.2.1.1 i 1 (by omega) (nI b)) dX9_setValue_34 (mX9_change) rfl lX9_141 iX9_change vX9_change (by decide) (by omega) (by exact hm) rfl rfl rfl rfl (Nat.le_of_ble_eq_true rfl) (fun v9 h9 z9 => ?_)
      obtain ⟨rfl, ⟨P1, hP, hrb⟩, qoff⟩ := z9
      have hM := hP.1
      have hr3 := m_r3_rem (x := 0) hr1 hrr.2.1 hrb
      have hoff := hoff.trans qoff
      have hm := hM.1
      have hw := hM.2
      refine g_ireturn dX9_setValue_37 rfl ?_
      first | (refine ⟨rfl, Or.inl ⟨⟨hin, hin2⟩, ?_, (by rw [nI_clamp (by omega)]; exact ⟨_, _, _, _, _, _, hP, rfl, ⟨cnt, cp, ok.put1 hbh, (m_D_put (by omega)).tr (he.put (by omega))⟩, hrr.1, hr3, hrr.2.2⟩)⟩, hoff⟩; (rw [nI_clamp (by omega)]; exact congrArg (fun x => some (Value.int x)) (he.2 1 (by omega) i hi))) | exact ⟨rfl, Or.inr (Or.inr ⟨⟨hin, hbad⟩, ⟨_, rfl⟩, ⟨_, _, _, _, _, _, hP, rfl, hr1, hrr⟩⟩), hoff⟩ | exact ⟨rfl, Or.inr (Or.inl ⟨hin, ⟨_, rfl⟩, ⟨_, _, _, _, _, _, hP, rfl, hr1, hrr⟩⟩), hoff⟩
    · have hno2 : y < 0 ∨ 999 < y := Classical.byContradiction fun z => c_23 (by rw [if_neg z])
      rw [if_pos hno2] at hM hP
      have hbad : ¬ ¬ (y < 0 ∨ 999 < y) := fun z => z hno2
      have hm := hM.1
      have hw := hM.2
      refine g_iconst 0 dX9_setValue_26 (by rfl) ?_
      refine g_goto (tgt := 37) dX9_setValue_27 (by decide) ?_
      refine g_ireturn dX9_setValue_37 rfl ?_
      first | (refine ⟨rfl, Or.inl ⟨⟨hin, hin2⟩, ?_, (by rw [nI_clamp (by omega)]; exact ⟨_, _, _, _, _, _, hP, rfl, ⟨cnt, cp, ok.put1 hbh, (m_D_put (by omega)).tr (he.put (by omega))⟩, hrr.1, hr3, hrr.2.2⟩)⟩, hoff⟩; (rw [nI_clamp (by omega)]; exact congrArg (fun x => some (Value.int x)) (he.2 1 (by omega) i hi))) | exact ⟨rfl, Or.inr (Or.inr ⟨⟨hin, hbad⟩, ⟨_, rfl⟩, ⟨_, _, _, _, _, _, hP, rfl, hr1, hrr⟩⟩), hoff⟩ | exact ⟨rfl, Or.inr (Or.inl ⟨hin, ⟨_, rfl⟩, ⟨_, _, _, _, _, _, hP, rfl, hr1, hrr⟩⟩), hoff⟩

theorem m_D_cap {w : Nat → Int32} {σ : s_D} {cnt : Nat} {c : Int32} (he : d_eq cnt (m_D w) σ) : d_eq cnt (m_D (upd w 0 c)) (d_cap σ c) :=
  d_eq_mk (he.1 0 (by omega)) rfl (he.1 2 (by omega)) (he.1 3 (by omega)) (he.1 4 (by omega)) (fun j hj => by rw [m_D_hd (by omega)]; exact ⟨he.2 0 (by omega) j hj, he.2 1 (by omega) j hj, he.2 2 (by omega) j hj, he.2 3 (by omega) j hj⟩)

theorem c_M_setCapacity {h : s_H} {n m : Nat} {π : s_Pl} {t : Int32} (hR : m_R h m π t) (hn : m + 21 ≤ n) {cnt cp : Nat} (ok : d_ok π.1 cnt cp) (x : Int32) : s_Mt TX9_setCapacity 0 0 [.ref m, .int x] h n (s_rp n (fun v9 h1 => ((¬ (x < 0 ∨ 100 < x) ∧ v9 = some (.int (π.1.2 1)) ∧ m_R h1 m (d_cap π.1 x, (pl_rem π).2) 0) ∨ (¬ ¬ (x < 0 ∨ 100 < x) ∧ (∃ z, v9 = some (.int z)) ∧ m_R h1 m π 1)) ∧ s_off h h1 m (m + 21)) s_no) := by
  obtain ⟨I, w, sn, P, tx, rp, hP, -, hr1, hrr⟩ := hR
  have hM := hP.1
  have hT := hP.2.2.2.2.2.2.2
  have hm := hM.1
  have hw := hM.2
  have hoff : s_off h h m (m + 21) := s_off.rf
  have he : d_eq cnt (m_D w) π.1 := by
    obtain ⟨c9, p9, o9, e9⟩ := id hr1
    obtain rfl : c9 = cnt := o9.cn.symm.trans ok.cn
    exact e9
  have okm := he.sy.ok ok
  have hc := okm.1
  have h14 := ok.2.1
  have hcp := okm.2.2.1
  have h100 := ok.2.2.2.1
  refine s_Mt_of rfl (by decide) (by exact Nat.le_of_ble_eq_true rfl) ?_
  refine g_aload_n dX9_setCapacity_0 rfl (by rfl) ?_
  refine g_iconst 0 dX9_setCapacity_1 (by rfl) ?_
  refine g_putf' dX9_setCapacity_2 pX9_59 (by exact hm) (by omega) (by exact Nat.le_of_ble_eq_true rfl) (by rfl) (by rfl) (fun h31 e31 => ?_)
  first | have hm_31 := s_up_off e31 (by omega) hm | have hm_31 := s_up_at e31
  first | have hw_31 := s_up_off e31 (by omega) hw | have hw_31 := s_up_at e31
  have hM := hM.th e31
  have qoff : s_off _ h31 m (m + 1) := s_off.rf.up e31 (by omega)
  have hT := hT.off qoff (by omega)
  have hP := hP.q (qoff.wide (a' := m) (b' := m + 2) (by omega) (by omega)).l2 hM hT
  have hoff := hoff.trans (qoff.wide (a' := m) (b' := m + 21) (by omega) (by omega))
  have hm := hM.1
  have hw := hM.2
  refine g_aload_n dX9_setCapacity_5 rfl (by rfl) ?_
  refine g_iload_n dX9_setCapacity_6 rfl (by rfl) ?_
  refine g_iconst 0 dX9_setCapacity_7 (by rfl) ?_
  refine g_bipush 100 dX9_setCapacity_8 (by rfl) ?_
  refine g_iconst 1 dX9_setCapacity_10 (by rfl) ?_
  refine g_callV_p (c_X9_outside hM hn x 0 100 1) dX9_setCapacity_11 (mX9_outside) rfl lX9_69 iX9_outside vX9_outside (by decide) (by omega) (by exact hm) rfl rfl rfl rfl (Nat.le_of_ble_eq_true rfl) (fun v9 h9 z9 => ?_)
  obtain ⟨rfl, hM, qoff⟩ := z9
  have hT := hT.off qoff (by omega)
  have hP := hP.q (qoff.wide (a' := m) (b' := m + 2) (by omega) (by omega)).l2 hM hT
  have hoff := hoff.trans (qoff.wide (a' := m) (b' := m + 21) (by omega) (by omega))
  refine g_if_eq (tgt := 19) dX9_setCapacity_14 (by decide) (fun c_14 => ?_) (fun c_14 => ?_)
  · have hin : ¬ (x < 0 ∨ 100 < x) := fun z => by rw [if_pos z] at c_14; exact absurd c_14 (by decide)
    rw [if_neg hin] at hM hP
    have hm := hM.1
    have hw := hM.2
    obtain ⟨c, hc9, rfl⟩ := nI_of (fun z => hin (Or.inl z))
    have hc100 : c ≤ 100 := Nat.le_of_not_lt fun z => hin (Or.inr (nI_lt z hc9))
    refine g_aload_n dX9_setCapacity_19 rfl (by rfl) ?_
    refine g_aload_n dX9_setCapacity_20 rfl (by rfl) ?_
    refine g_getf dX9_setCapacity_21 fX9_9 (by exact hm) (by omega) (by rfl) ?_
    obtain ⟨pm, hQ⟩ := hP.2.1
    refine g_callV_p (c_X9_remember hm hQ hw hn (by omega) (by omega) (show upd I 0 0 3 = nI π.2.2.2.2.1 from hrr.2.1.2.1) hrr.2.1.1) dX9_setCapacity_24 (mX9_remember) rfl lX9_130 iX9_remember vX9_remember (by decide) (by omega) (by exact hm) rfl rfl rfl rfl (Nat.le_of_ble_eq_true rfl) (fun v9 h9 z9 => ?_)
    obtain ⟨rfl, hm1, ⟨pm1, P1, hQ1, hrb⟩, qoff⟩ := z9
    have hP := hP.rem qoff hm1 ⟨pm1, hQ1⟩
    have hM := hP.1
    have hT := hP.2.2.2.2.2.2.2
    have hr3 := m_r3_rem (x := 0) hr1 hrr.2.1 hrb
    have hoff := hoff.trans (qoff.one (x := m) (y := m + 21) (by omega) (by omega) (by omega) (by omega))
    have hm := hM.1
    have hw := hM.2
    refine g_aload_n dX9_setCapacity_27 rfl (by rfl) ?_
    refine g_getf dX9_setCapacity_28 fX9_9 (by exact hm) (by omega) (by rfl) ?_
    refine g_iconst 0 dX9_setCapacity_31 (by rfl) ?_
    refine g_iald dX9_setCapacity_32 (by exact hw) (by omega) (show (0 : Int32) = nI 0 from rfl) (by decide) (by omega) ?_
    refine g_istore_n dX9_setCapacity_33 rfl (by decide) ?_
    refine g_aload_n dX9_setCapacity_34 rfl (by rfl) ?_
    refine g_getf dX9_setCapacity_35 fX9_9 (by exact hm) (by omega) (by rfl) ?_
    refine g_iconst 0 dX9_setCapacity_38 (by rfl) ?_
    refine g_iload_n dX9_setCapacity_39 rfl (by rfl) ?_
    refine g_iast' dX9_setCapacity_40 (by exact hw) (by omega) (show (0 : Int32) = nI 0 from rfl) (by decide) (by omega) (fun h32 e32 => ?_)
    first | have hm_32 := s_up_off e32 (by omega) hm | have hm_32 := s_up_at e32
    first | have hw_32 := s_up_off e32 (by omega) hw | have hw_32 := s_up_at e32
    have hM : m_at h32 m _ (upd w 0 (nI c)) := ⟨hm_32, hw_32⟩
    have qoff := ((s_off.rf (a := (m + 1)) (b := (m + 2))).up e32 (by omega))
    have hP := hP.wc qoff hw_32
    have hoff := hoff.trans (qoff.wide (a' := m) (b' := m + 21) (by omega) (by omega))
    refine g_iload_n dX9_setCapacity_41 rfl (by rfl) ?_
    refine g_ireturn dX9_setCapacity_42 rfl ?_
    first | (refine ⟨rfl, Or.inl ⟨hin, ?_, ⟨_, _, _, _, _, _, hP, rfl, ⟨cnt, c, ok.cap hc100, m_D_cap he⟩, hrr.1, hr3, hrr.2.2⟩⟩, hoff⟩; (exact congrArg (fun x => some (Value.int x)) (he.1 1 (by omega)))) | exact ⟨rfl, Or.inr ⟨hin, ⟨_, rfl⟩, ⟨_, _, _, _, _, _, hP, rfl, hr1, hrr⟩⟩, hoff⟩
  · have hno : x < 0 ∨ 100 < x := Classical.byContradiction fun z => c_14 (by rw [if_neg z])
    rw [if_pos hno] at hM hP
    have hin : ¬ ¬ (x < 0 ∨ 100 < x) := fun z => z hno
    have hm := hM.1
    have hw := hM.2
    refine g_iconst 0 dX9_setCapacity_17 (by rfl) ?_
    refine g_ireturn dX9_setCapacity_18 rfl ?_
    first | (refine ⟨rfl, Or.inl ⟨hin, ?_, ⟨_, _, _, _, _, _, hP, rfl, ⟨cnt, c, ok.cap hc100, m_D_cap he⟩, hrr.1, hr3, hrr.2.2⟩⟩, hoff⟩; (exact congrArg (fun x => some (Value.int x)) (he.1 1 (by omega)))) | exact ⟨rfl, Or.inr ⟨hin, ⟨_, rfl⟩, ⟨_, _, _, _, _, _, hP, rfl, hr1, hrr⟩⟩, hoff⟩

theorem d_eq.add {cnt : Nat} {σ τ : s_D} {x y : Int32} (q : d_eq cnt σ τ) : d_eq (cnt + 1) (d_add σ cnt x y) (d_add τ cnt x y) := by
  refine d_eq_mk rfl (q.1 1 (by omega)) (q.1 2 (by omega)) (q.1 3 (by omega)) (q.1 4 (by omega)) (fun j hj => ?_)
  show (if j = cnt then x else σ.1 0 j) = (if j = cnt then x else τ.1 0 j) ∧ (if j = cnt then y else σ.1 1 j) = (if j = cnt then y else τ.1 1 j) ∧ (if j = cnt then 0 else σ.1 2 j) = (if j = cnt then 0 else τ.1 2 j) ∧ (if j = cnt then 0 else σ.1 3 j) = (if j = cnt then 0 else τ.1 3 j)
  by_cases e : j = cnt
  · simp [e]
  · simp only [if_neg e]
    exact ⟨q.2 0 (by omega) j (by omega), q.2 1 (by omega) j (by omega), q.2 2 (by omega) j (by omega), q.2 3 (by omega) j (by omega)⟩
theorem d_eq.drop {c item : Nat} {σ τ : s_D} (q : d_eq (c + 1) σ τ) : d_eq c (d_drop σ item (c + 1)) (d_drop τ item (c + 1)) := by
  refine d_eq_mk rfl (q.1 1 (by omega)) (q.1 2 (by omega)) (q.1 3 (by omega)) (q.1 4 (by omega)) (fun j hj => ?_)
  have hg : ∀ f, f < 4 → d_sh (σ.1 f) item (c + 1) j = d_sh (τ.1 f) item (c + 1) j := fun f hf => by
    unfold d_sh
    split
    · exact q.2 f hf (j + 1) (by omega)
    · exact q.2 f hf j (by omega)
  exact ⟨hg 0 (by omega), hg 1 (by omega), hg 2 (by omega), hg 3 (by omega)⟩
theorem d_eq.kps {cnt : Nat} {σ τ : s_D} {s : Int32} (q : d_eq cnt σ τ) : d_eq cnt (d_kps σ s cnt) (d_kps τ s cnt) := by
  refine d_eq_mk (q.1 0 (by omega)) (q.1 1 (by omega)) (q.1 2 (by omega)) (q.1 3 (by omega)) (q.1 4 (by omega)) (fun j hj => ⟨q.2 0 (by omega) j hj, q.2 1 (by omega) j hj, q.2 2 (by omega) j hj, ?_⟩)
  show d_kp (σ.1 3) s cnt j = d_kp (τ.1 3) s cnt j
  unfold d_kp
  rw [q.2 3 (by omega) j hj]
theorem d_eq.kc {cnt : Nat} {σ τ : s_D} {s : Int32} (q : d_eq cnt σ τ) : ∀ i, i ≤ cnt → d_kc (σ.1 3) s i = d_kc (τ.1 3) s i
  | 0, _ => rfl
  | i + 1, h => by
    unfold d_kc
    rw [q.kc i (by omega), q.2 3 (by omega) i (by omega)]

theorem c_M_addItem {h : s_H} {n m : Nat} {π : s_Pl} {t : Int32} (hR : m_R h m π t) (hn : m + 21 ≤ n) {cnt cp : Nat} (ok : d_ok π.1 cnt cp) (x y : Int32) : s_Mt TX9_addItem 0 0 [.ref m, .int x, .int y] h n (s_rp n (fun v9 h1 => (((¬ (x < 1 ∨ 60 < x) ∧ ¬ (y < 0 ∨ 999 < y)) ∧ v9 = some (.int (if cnt = 14 then -2 else nI cnt)) ∧ m_R h1 m (if cnt = 14 then π else (d_add π.1 cnt x y, (pl_rem π).2)) 0) ∨ (¬ (¬ (x < 1 ∨ 60 < x) ∧ ¬ (y < 0 ∨ 999 < y)) ∧ (∃ z, v9 = some (.int z)) ∧ m_R h1 m π 1)) ∧ s_off h h1 m (m + 21)) s_no) := by
  obtain ⟨I, w, sn, P, tx, rp, hP, -, hr1, hrr⟩ := hR
  have hM := hP.1
  have hT := hP.2.2.2.2.2.2.2
  have hm := hM.1
  have hw := hM.2
  have hoff : s_off h h m (m + 21) := s_off.rf
  have he : d_eq cnt (m_D w) π.1 := by
    obtain ⟨c9, p9, o9, e9⟩ := id hr1
    obtain rfl : c9 = cnt := o9.cn.symm.trans ok.cn
    exact e9
  have okm := he.sy.ok ok
  have hc := okm.1
  have h14 := ok.2.1
  have hcp := okm.2.2.1
  have h100 := ok.2.2.2.1
  refine s_Mt_of rfl (by decide) (by exact Nat.le_of_ble_eq_true rfl) ?_
  refine g_aload_n dX9_addItem_0 rfl (by rfl) ?_
  refine g_iconst 0 dX9_addItem_1 (by rfl) ?_
  refine g_putf' dX9_addItem_2 pX9_59 (by exact hm) (by omega) (by exact Nat.le_of_ble_eq_true rfl) (by rfl) (by rfl) (fun h31 e31 => ?_)
  first | have hm_31 := s_up_off e31 (by omega) hm | have hm_31 := s_up_at e31
  first | have hw_31 := s_up_off e31 (by omega) hw | have hw_31 := s_up_at e31
  have hM := hM.th e31
  have qoff : s_off _ h31 m (m + 1) := s_off.rf.up e31 (by omega)
  have hT := hT.off qoff (by omega)
  have hP := hP.q (qoff.wide (a' := m) (b' := m + 2) (by omega) (by omega)).l2 hM hT
  have hoff := hoff.trans (qoff.wide (a' := m) (b' := m + 21) (by omega) (by omega))
  have hm := hM.1
  have hw := hM.2
  refine g_aload_n dX9_addItem_5 rfl (by rfl) ?_
  refine g_iload_n dX9_addItem_6 rfl (by rfl) ?_
  refine g_iconst 1 dX9_addItem_7 (by rfl) ?_
  refine g_bipush 60 dX9_addItem_8 (by rfl) ?_
  refine g_iconst 1 dX9_addItem_10 (by rfl) ?_
  refine g_callV_p (c_X9_outside hM hn x 1 60 1) dX9_addItem_11 (mX9_outside) rfl lX9_69 iX9_outside vX9_outside (by decide) (by omega) (by exact hm) rfl rfl rfl rfl (Nat.le_of_ble_eq_true rfl) (fun v9 h9 z9 => ?_)
  obtain ⟨rfl, hM, qoff⟩ := z9
  have hT := hT.off qoff (by omega)
  have hP := hP.q (qoff.wide (a' := m) (b' := m + 2) (by omega) (by omega)).l2 hM hT
  have hoff := hoff.trans (qoff.wide (a' := m) (b' := m + 21) (by omega) (by omega))
  refine g_if_ne (tgt := 30) dX9_addItem_14 (by decide) (fun c_14 => ?_) (fun c_14 => ?_)
  · have hno : x < 1 ∨ 60 < x := Classical.byContradiction fun z => c_14 (by rw [if_neg z])
    rw [if_pos hno] at hM hP
    have hin : ¬ (¬ (x < 1 ∨ 60 < x) ∧ ¬ (y < 0 ∨ 999 < y)) := fun z => z.1 hno
    have hm := hM.1
    have hw := hM.2
    refine g_iconst 0 dX9_addItem_30 (by rfl) ?_
    refine g_ireturn dX9_addItem_31 rfl ?_
    first | (refine ⟨rfl, Or.inl ⟨hin, ?_, (by rw [if_pos heq]; exact ⟨_, _, _, _, _, _, hP, rfl, hr1, hrr⟩)⟩, hoff⟩; (rw [if_pos heq])) | (refine ⟨rfl, Or.inl ⟨hin, ?_, (by rw [if_neg hne]; exact ⟨_, _, _, _, _, _, hP, rfl, ⟨cnt + 1, cp, ok.add hlt hal hah hbh, m_D_add.tr he.add⟩, hrr.1, hr3, hrr.2.2⟩)⟩, hoff⟩; (rw [if_neg hne])) | exact ⟨rfl, Or.inr ⟨hin, ⟨_, rfl⟩, ⟨_, _, _, _, _, _, hP, rfl, hr1, hrr⟩⟩, hoff⟩
  · have hi1 : ¬ (x < 1 ∨ 60 < x) := fun z => by rw [if_pos z] at c_14; exact absurd c_14 (by decide)
    rw [if_neg hi1] at hM hP
    have hm := hM.1
    have hw := hM.2
    refine g_aload_n dX9_addItem_17 rfl (by rfl) ?_
    refine g_iload_n dX9_addItem_18 rfl (by rfl) ?_
    refine g_iconst 0 dX9_addItem_19 (by rfl) ?_
    refine g_sipush 999 dX9_addItem_20 (by rfl) ?_
    refine g_iconst 1 dX9_addItem_23 (by rfl) ?_
    refine g_callV_p (c_X9_outside hM hn y 0 999 1) dX9_addItem_24 (mX9_outside) rfl lX9_69 iX9_outside vX9_outside (by decide) (by omega) (by exact hm) rfl rfl rfl rfl (Nat.le_of_ble_eq_true rfl) (fun v9 h9 z9 => ?_)
    obtain ⟨rfl, hM, qoff⟩ := z9
    have hT := hT.off qoff (by omega)
    have hP := hP.q (qoff.wide (a' := m) (b' := m + 2) (by omega) (by omega)).l2 hM hT
    have hoff := hoff.trans (qoff.wide (a' := m) (b' := m + 21) (by omega) (by omega))
    refine g_if_eq (tgt := 32) dX9_addItem_27 (by decide) (fun c_27 => ?_) (fun c_27 => ?_)
    · have hi2 : ¬ (y < 0 ∨ 999 < y) := fun z => by rw [if_pos z] at c_27; exact absurd c_27 (by decide)
      rw [if_neg hi2] at hM hP
      have hin : (¬ (x < 1 ∨ 60 < x) ∧ ¬ (y < 0 ∨ 999 < y)) := ⟨hi1, hi2⟩
      obtain ⟨a, ha9, rfl⟩ := nI_of (x := x) (fun z => hi1 (Or.inl (by rw [Int32.lt_iff_toInt_lt] at z ⊢; exact Int.lt_trans z (by decide))))
      have hah : a ≤ 60 := Nat.le_of_not_lt fun z => hi1 (Or.inr (nI_lt z ha9))
      have hal : 1 ≤ a := Nat.le_of_not_lt fun z => hi1 (Or.inl (nI_lt (b := 1) z (by omega)))
      obtain ⟨b, hb9, rfl⟩ := nI_of (x := y) (fun z => hi2 (Or.inl z))
      have hbh : b ≤ 999 := Nat.le_of_not_lt fun z => hi2 (Or.inr (nI_lt z hb9))
      have hm := hM.1
      have hw := hM.2
      refine g_aload_n dX9_addItem_32 rfl (by rfl) ?_
      refine g_getf dX9_addItem_33 fX9_9 (by exact hm) (by omega) (by rfl) ?_
      refine g_iconst 1 dX9_addItem_36 (by rfl) ?_
      refine g_iald dX9_addItem_37 (by exact hw) (by omega) (show (1 : Int32) = nI 1 from rfl) (by decide) (by omega) ?_
      rw [show w 1 = nI cnt from hc]
      refine g_bipush 14 dX9_addItem_38 (by rfl) ?_
      refine g_icmp_ne (tgt := 46) dX9_addItem_40 (by decide) (fun c_40 => ?_) (fun c_40 => ?_)
      · have hlt : cnt < 14 := by
          have : ¬ cnt = 14 := fun z => c_40 (by rw [z]; rfl)
          omega
        have hne : ¬ cnt = 14 := by omega
        refine g_aload_n dX9_addItem_46 rfl (by rfl) ?_
        refine g_aload_n dX9_addItem_47 rfl (by rfl) ?_
        refine g_getf dX9_addItem_48 fX9_9 (by exact hm) (by omega) (by rfl) ?_
        obtain ⟨pm, hQ⟩ := hP.2.1
        refine g_callV_p (c_X9_remember hm hQ hw hn (by omega) (by omega) (show upd I 0 0 3 = nI π.2.2.2.2.1 from hrr.2.1.2.1) hrr.2.1.1) dX9_addItem_51 (mX9_remember) rfl lX9_130 iX9_remember vX9_remember (by decide) (by omega) (by exact hm) rfl rfl rfl rfl (Nat.le_of_ble_eq_true rfl) (fun v9 h9 z9 => ?_)
        obtain ⟨rfl, hm1, ⟨pm1, P1, hQ1, hrb⟩, qoff⟩ := z9
        have hP := hP.rem qoff hm1 ⟨pm1, hQ1⟩
        have hM := hP.1
        have hT := hP.2.2.2.2.2.2.2
        have hr3 := m_r3_rem (x := 0) hr1 hrr.2.1 hrb
        have hoff := hoff.trans (qoff.one (x := m) (y := m + 21) (by omega) (by omega) (by omega) (by omega))
        have hm := hM.1
        have hw := hM.2
        refine g_aload_n dX9_addItem_54 rfl (by rfl) ?_
        refine g_iload_n dX9_addItem_55 rfl (by rfl) ?_
        refine g_iload_n dX9_addItem_56 rfl (by rfl) ?_
        refine g_callV_p (c_X9_add hM hn hc hlt (nI a) (nI b)) dX9_addItem_57 (mX9_add) rfl lX9_51 iX9_add vX9_add (by decide) (by omega) (by exact hm) rfl rfl rfl rfl (Nat.le_of_ble_eq_true rfl) (fun v9 h9 z9 => ?_)
        obtain ⟨rfl, hM, qoff⟩ := z9
        have hT := hT.off qoff (by omega)
        have hP := hP.q (qoff.wide (a' := m) (b' := m + 2) (by omega) (by omega)).l2 hM hT
        have hoff := hoff.trans (qoff.wide (a' := m) (b' := m + 21) (by omega) (by omega))
        have hm := hM.1
        have hw := hM.2
        refine g_ireturn dX9_addItem_60 rfl ?_
        first | (refine ⟨rfl, Or.inl ⟨hin, ?_, (by rw [if_pos heq]; exact ⟨_, _, _, _, _, _, hP, rfl, hr1, hrr⟩)⟩, hoff⟩; (rw [if_pos heq])) | (refine ⟨rfl, Or.inl ⟨hin, ?_, (by rw [if_neg hne]; exact ⟨_, _, _, _, _, _, hP, rfl, ⟨cnt + 1, cp, ok.add hlt hal hah hbh, m_D_add.tr he.add⟩, hrr.1, hr3, hrr.2.2⟩)⟩, hoff⟩; (rw [if_neg hne])) | exact ⟨rfl, Or.inr ⟨hin, ⟨_, rfl⟩, ⟨_, _, _, _, _, _, hP, rfl, hr1, hrr⟩⟩, hoff⟩
      · have heq : cnt = 14 := nI_inj (a := cnt) (b := 14) (by omega) (by omega) c_40
        refine g_bipush (-2) dX9_addItem_43 (by rfl) ?_
        refine g_ireturn dX9_addItem_45 rfl ?_
        first | (refine ⟨rfl, Or.inl ⟨hin, ?_, (by rw [if_pos heq]; exact ⟨_, _, _, _, _, _, hP, rfl, hr1, hrr⟩)⟩, hoff⟩; (rw [if_pos heq])) | (refine ⟨rfl, Or.inl ⟨hin, ?_, (by rw [if_neg hne]; exact ⟨_, _, _, _, _, _, hP, rfl, ⟨cnt + 1, cp, ok.add hlt hal hah hbh, m_D_add.tr he.add⟩, hrr.1, hr3, hrr.2.2⟩)⟩, hoff⟩; (rw [if_neg hne])) | exact ⟨rfl, Or.inr ⟨hin, ⟨_, rfl⟩, ⟨_, _, _, _, _, _, hP, rfl, hr1, hrr⟩⟩, hoff⟩
    · have hno : y < 0 ∨ 999 < y := Classical.byContradiction fun z => c_27 (by rw [if_neg z])
      rw [if_pos hno] at hM hP
      have hin : ¬ (¬ (x < 1 ∨ 60 < x) ∧ ¬ (y < 0 ∨ 999 < y)) := fun z => z.2 hno
      have hm := hM.1
      have hw := hM.2
      refine g_iconst 0 dX9_addItem_30 (by rfl) ?_
      refine g_ireturn dX9_addItem_31 rfl ?_
      first | (refine ⟨rfl, Or.inl ⟨hin, ?_, (by rw [if_pos heq]; exact ⟨_, _, _, _, _, _, hP, rfl, hr1, hrr⟩)⟩, hoff⟩; (rw [if_pos heq])) | (refine ⟨rfl, Or.inl ⟨hin, ?_, (by rw [if_neg hne]; exact ⟨_, _, _, _, _, _, hP, rfl, ⟨cnt + 1, cp, ok.add hlt hal hah hbh, m_D_add.tr he.add⟩, hrr.1, hr3, hrr.2.2⟩)⟩, hoff⟩; (rw [if_neg hne])) | exact ⟨rfl, Or.inr ⟨hin, ⟨_, rfl⟩, ⟨_, _, _, _, _, _, hP, rfl, hr1, hrr⟩⟩, hoff⟩

theorem c_M_removeItem {h : s_H} {n m : Nat} {π : s_Pl} {t : Int32} (hR : m_R h m π t) (hn : m + 21 ≤ n) {cnt cp : Nat} (ok : d_ok π.1 cnt cp) (x : Int32) : s_Mt TX9_removeItem 0 0 [.ref m, .int x] h n (s_rp n (fun v9 h1 => ((s_in π x ∧ v9 = some (.int (nI (cnt - 1))) ∧ m_R h1 m (d_drop π.1 x.toNatClampNeg cnt, (pl_rem π).2) 0) ∨ (¬ s_in π x ∧ (∃ z, v9 = some (.int z)) ∧ m_R h1 m π 1)) ∧ s_off h h1 m (m + 21)) s_no) := by
  obtain ⟨I, w, sn, P, tx, rp, hP, -, hr1, hrr⟩ := hR
  have hM := hP.1
  have hT := hP.2.2.2.2.2.2.2
  have hm := hM.1
  have hw := hM.2
  have hoff : s_off h h m (m + 21) := s_off.rf
  have he : d_eq cnt (m_D w) π.1 := by
    obtain ⟨c9, p9, o9, e9⟩ := id hr1
    obtain rfl : c9 = cnt := o9.cn.symm.trans ok.cn
    exact e9
  have okm := he.sy.ok ok
  have hc := okm.1
  have h14 := ok.2.1
  have hcp := okm.2.2.1
  have h100 := ok.2.2.2.1
  refine s_Mt_of rfl (by decide) (by exact Nat.le_of_ble_eq_true rfl) ?_
  refine g_aload_n dX9_removeItem_0 rfl (by rfl) ?_
  refine g_iconst 0 dX9_removeItem_1 (by rfl) ?_
  refine g_putf' dX9_removeItem_2 pX9_59 (by exact hm) (by omega) (by exact Nat.le_of_ble_eq_true rfl) (by rfl) (by rfl) (fun h31 e31 => ?_)
  first | have hm_31 := s_up_off e31 (by omega) hm | have hm_31 := s_up_at e31
  first | have hw_31 := s_up_off e31 (by omega) hw | have hw_31 := s_up_at e31
  have hM := hM.th e31
  have qoff : s_off _ h31 m (m + 1) := s_off.rf.up e31 (by omega)
  have hT := hT.off qoff (by omega)
  have hP := hP.q (qoff.wide (a' := m) (b' := m + 2) (by omega) (by omega)).l2 hM hT
  have hoff := hoff.trans (qoff.wide (a' := m) (b' := m + 21) (by omega) (by omega))
  have hm := hM.1
  have hw := hM.2
  refine g_aload_n dX9_removeItem_5 rfl (by rfl) ?_
  refine g_iload_n dX9_removeItem_6 rfl (by rfl) ?_
  refine g_callV_p (c_X9_noItem hM hn hc h14 x) dX9_removeItem_7 (mX9_noItem) rfl lX9_134 iX9_noItem vX9_noItem (by decide) (by omega) (by exact hm) rfl rfl rfl rfl (Nat.le_of_ble_eq_true rfl) (fun v9 h9 z9 => ?_)
  obtain ⟨rfl, hM, qoff⟩ := z9
  have hT := hT.off qoff (by omega)
  have hP := hP.q (qoff.wide (a' := m) (b' := m + 2) (by omega) (by omega)).l2 hM hT
  have hoff := hoff.trans (qoff.wide (a' := m) (b' := m + 21) (by omega) (by omega))
  refine g_if_eq (tgt := 15) dX9_removeItem_10 (by decide) (fun c_10 => ?_) (fun c_10 => ?_)
  · have hin : ¬ x < 0 ∧ x < nI cnt := Classical.byContradiction fun z => by rw [if_neg z] at c_10; exact absurd c_10 (by decide)
    rw [if_pos hin] at hM hP
    have hin : s_in π x := by unfold s_in; rw [ok.1]; exact hin
    obtain ⟨i, rfl, hi⟩ := hin.nat ok
    have hm := hM.1
    have hw := hM.2
    refine g_aload_n dX9_removeItem_15 rfl (by rfl) ?_
    refine g_aload_n dX9_removeItem_16 rfl (by rfl) ?_
    refine g_getf dX9_removeItem_17 fX9_9 (by exact hm) (by omega) (by rfl) ?_
    obtain ⟨pm, hQ⟩ := hP.2.1
    refine g_callV_p (c_X9_remember hm hQ hw hn (by omega) (by omega) (show upd I 0 0 3 = nI π.2.2.2.2.1 from hrr.2.1.2.1) hrr.2.1.1) dX9_removeItem_20 (mX9_remember) rfl lX9_130 iX9_remember vX9_remember (by decide) (by omega) (by exact hm) rfl rfl rfl rfl (Nat.le_of_ble_eq_true rfl) (fun v9 h9 z9 => ?_)
    obtain ⟨rfl, hm1, ⟨pm1, P1, hQ1, hrb⟩, qoff⟩ := z9
    have hP := hP.rem qoff hm1 ⟨pm1, hQ1⟩
    have hM := hP.1
    have hT := hP.2.2.2.2.2.2.2
    have hr3 := m_r3_rem (x := 0) hr1 hrr.2.1 hrb
    have hoff := hoff.trans (qoff.one (x := m) (y := m + 21) (by omega) (by omega) (by omega) (by omega))
    have hm := hM.1
    have hw := hM.2
    refine g_aload_n dX9_removeItem_23 rfl (by rfl) ?_
    refine g_iload_n dX9_removeItem_24 rfl (by rfl) ?_
    refine g_callV_p (c_X9_remove hM hn (c := cnt - 1) (item := i) (by rw [show cnt - 1 + 1 = cnt by omega]; exact hc) (by omega) (by omega)) dX9_removeItem_25 (mX9_remove) rfl lX9_138 iX9_remove vX9_remove (by decide) (by omega) (by exact hm) rfl rfl rfl rfl (Nat.le_of_ble_eq_true rfl) (fun v9 h9 z9 => ?_)
    obtain ⟨rfl, hM, qoff⟩ := z9
    have hT := hT.off qoff (by omega)
    have hP := hP.q (qoff.wide (a' := m) (b' := m + 2) (by omega) (by omega)).l2 hM hT
    have hoff := hoff.trans (qoff.wide (a' := m) (b' := m + 21) (by omega) (by omega))
    have hm := hM.1
    have hw := hM.2
    refine g_aload_n dX9_removeItem_28 rfl (by rfl) ?_
    refine g_getf dX9_removeItem_29 fX9_9 (by exact hm) (by omega) (by rfl) ?_
    refine g_iconst 1 dX9_removeItem_32 (by rfl) ?_
    refine g_iald dX9_removeItem_33 (by exact hw) (by omega) (show (1 : Int32) = nI 1 from rfl) (by decide) (by omega) ?_
    rw [show m_rem w i (cnt - 1) 1 = nI (cnt - 1) from ((m_D_rem (w := w) (item := i) (c := cnt - 1) (by omega)).1 0 (by omega))]
    refine g_ireturn dX9_removeItem_34 rfl ?_
    first | exact ⟨rfl, Or.inl ⟨hin, rfl, (by rw [nI_clamp (by omega)]; obtain ⟨c, rfl⟩ : ∃ c, cnt = c + 1 := ⟨cnt - 1, by omega⟩; exact ⟨_, _, _, _, _, _, hP, rfl, ⟨c, cp, ok.drop hi, (m_D_rem (by omega)).tr he.drop⟩, hrr.1, hr3, hrr.2.2⟩)⟩, hoff⟩ | exact ⟨rfl, Or.inr ⟨hin, ⟨_, rfl⟩, ⟨_, _, _, _, _, _, hP, rfl, hr1, hrr⟩⟩, hoff⟩
  · have hno : ¬ (¬ x < 0 ∧ x < nI cnt) := fun z => c_10 (by rw [if_pos z])
    rw [if_neg hno] at hM hP
    have hin : ¬ s_in π x := by unfold s_in; rw [ok.1]; exact hno
    have hm := hM.1
    have hw := hM.2
    refine g_iconst 0 dX9_removeItem_13 (by rfl) ?_
    refine g_ireturn dX9_removeItem_14 rfl ?_
    first | exact ⟨rfl, Or.inl ⟨hin, rfl, (by rw [nI_clamp (by omega)]; obtain ⟨c, rfl⟩ : ∃ c, cnt = c + 1 := ⟨cnt - 1, by omega⟩; exact ⟨_, _, _, _, _, _, hP, rfl, ⟨c, cp, ok.drop hi, (m_D_rem (by omega)).tr he.drop⟩, hrr.1, hr3, hrr.2.2⟩)⟩, hoff⟩ | exact ⟨rfl, Or.inr ⟨hin, ⟨_, rfl⟩, ⟨_, _, _, _, _, _, hP, rfl, hr1, hrr⟩⟩, hoff⟩
