/-! THE COMPONENT: changes -/
theorem s_disk.put {h h1 : s_H} {d i : Nat} {x : Int32} {σ : s_D} (q : s_disk h d σ) (f : Nat) (hf : f < 4) (e : h1 = s_up h (d + 1 + f) (.inl (0, 14, .inl (upd (σ.1 f) i x)))) : s_disk h1 d (d_put σ f i x) := by
  have e1 := s_up_at e
  match f, hf with
  | 0, _ => exact ⟨s_up_off e (by omega) q.1, e1, s_up_off e (by omega) q.2.2.1, s_up_off e (by omega) q.2.2.2.1, s_up_off e (by omega) q.2.2.2.2⟩
  | 1, _ => exact ⟨s_up_off e (by omega) q.1, s_up_off e (by omega) q.2.1, e1, s_up_off e (by omega) q.2.2.2.1, s_up_off e (by omega) q.2.2.2.2⟩
  | 2, _ => exact ⟨s_up_off e (by omega) q.1, s_up_off e (by omega) q.2.1, s_up_off e (by omega) q.2.2.1, e1, s_up_off e (by omega) q.2.2.2.2⟩
  | 3, _ => exact ⟨s_up_off e (by omega) q.1, s_up_off e (by omega) q.2.1, s_up_off e (by omega) q.2.2.1, s_up_off e (by omega) q.2.2.2.1, e1⟩
def d_cap (σ : s_D) (c : Int32) : s_D := (σ.1, d_mk (σ.2 0) c (σ.2 2) (σ.2 3) (σ.2 4))
theorem s_off2.flip {h h1 : s_H} {a b c e : Nat} (q : s_off2 h h1 a b c e) : s_off2 h h1 c e a b := fun j z1 z2 => q j z2 z1

theorem c_X8_setSize {h : s_H} {n b : Nat} {π : s_Pl} (hP : s_pl h b π) (hn : b + 93 ≤ n) {cnt cp : Nat} (ok : d_ok π.1 cnt cp) (hl : π.2.2.2.2.1 ≤ 10) (x y : Int32) : s_Mt TX8_setSize 2 12 [.ref b, .int x, .int y] h n (s_rp n (fun v9 h1 => v9 = some (.int (π.1.1 0 x.toNatClampNeg)) ∧ s_pl h1 b (d_put π.1 0 x.toNatClampNeg y, (pl_rem π).2) ∧ s_off h h1 b (b + 93) ∧ (s_in π x ∧ ¬ (y < 1 ∨ 60 < y))) (fun E h1 => (if s_in π x then E = "java/lang/IllegalArgumentException" else E = "java/lang/IndexOutOfBoundsException") ∧ h1 = h ∧ ¬ (s_in π x ∧ ¬ (y < 1 ∨ 60 < y)))) := by
  obtain ⟨hb, hD, hS, ⟨σt, hDt⟩, ⟨pm, hH⟩, hT, ⟨go, gl, hG, hgl, hgo⟩, ⟨nx, tk, ts, ex, hsc⟩, hR⟩ := id hP
  obtain ⟨τ, hTt, hT0⟩ := id hT
  unfold s_po at hb
  have hd := hD.1
  have hs := hsc.1
  have hk := hH.1
  have ht := hTt.1
  have hg := hG.1
  have hr := hR.1
  have htd := hDt.1
  have hsd := hS.1
  have q1 := hD.2.1
  have q2 := hD.2.2.1
  have q3 := hD.2.2.2.1
  have q4 := hD.2.2.2.2
  have u1 := hDt.2.1
  have u2 := hDt.2.2.1
  have u3 := hDt.2.2.2.1
  have u4 := hDt.2.2.2.2
  rw [ok.1, ok.2.2.1] at hd
  have hoff : s_off h h b (b + 93) := s_off.rf
  refine s_Mt_of rfl (by decide) (by exact Nat.le_of_ble_eq_true rfl) ?_
  refine g_aload_n dX8_setSize_0 rfl (by rfl) ?_
  refine g_iload_n dX8_setSize_1 rfl (by rfl) ?_
  refine g_callV_x (c_X8_requireItem hP hn x) dX8_setSize_2 (mX8_requireItem) rfl lX8_102 iX8_requireItem vX8_requireItem (by decide) (by omega) (by exact hb) rfl rfl rfl rfl (Nat.le_of_ble_eq_true rfl) (Nat.le_of_ble_eq_true rfl) (Nat.le_of_ble_eq_true rfl) (fun v9 h9 z9 => ?_) (fun E9 h9 z9 => gx_out rfl ⟨rfl, by rw [if_neg z9.2.2]; exact z9.1, z9.2.1, fun z => z9.2.2 z.1⟩)
  obtain ⟨rfl, hh, hin⟩ := z9
  have hh := hh.symm
  subst hh
  obtain ⟨i, rfl, hi⟩ := s_in.nat hin ok
  have hi14 := ok.2.1
  refine g_iload_n dX8_setSize_5 rfl (by rfl) ?_
  refine g_iconst 1 dX8_setSize_6 (by rfl) ?_
  refine g_bipush 60 dX8_setSize_7 (by rfl) ?_
  refine g_callS_x (c_X8_requireWithin y 1 60) dX8_setSize_9 (mX8_requireWithin) rfl lX8_80 sX8_requireWithin (by decide) rfl rfl (Nat.le_of_ble_eq_true rfl) (Nat.le_of_ble_eq_true rfl) (Nat.le_of_ble_eq_true rfl) (fun v9 h9 z9 => ?_) (fun E9 h9 z9 => gx_out rfl ⟨rfl, by rw [if_pos hin]; exact z9.1, z9.2.1, fun z => z.2 z9.2.2⟩)
  obtain ⟨rfl, hh, hin2⟩ := z9
  have hh := hh.symm
  subst hh
  refine g_aload_n dX8_setSize_12 rfl (by rfl) ?_
  refine g_getf dX8_setSize_13 fX8_29 (by exact hb) (by omega) (by rfl) ?_
  refine g_aload_n dX8_setSize_16 rfl (by rfl) ?_
  refine g_getf dX8_setSize_17 fX8_12 (by exact hb) (by omega) (by rfl) ?_
  refine g_callV_p (c_X4_remember hH (by omega) hD (by omega) (by omega) hl) dX8_setSize_20 (mX4_remember) rfl lX8_92 iX4_remember vX4_remember (by decide) (by omega) (by exact hk) rfl rfl rfl rfl (Nat.le_of_ble_eq_true rfl) (fun v9 h9 z9 => ?_)
  obtain ⟨rfl, qh, qoff⟩ := z9
  have hP : s_pl h9 b (pl_rem π) := hP.hist qoff qh
  have hoff := hoff.trans (qoff.wide (a := _) (b := _) (a' := b) (b' := b + 93) (by omega) (by omega))
  have ok : d_ok (pl_rem π).1 cnt cp := ok
  obtain ⟨hb, hD, hS, ⟨σt, hDt⟩, ⟨pm, hH⟩, hT, ⟨go, gl, hG, hgl, hgo⟩, ⟨nx, tk, ts, ex, hsc⟩, hR⟩ := id hP
  obtain ⟨τ, hTt, hT0⟩ := id hT
  unfold s_po at hb
  have hd := hD.1
  have hs := hsc.1
  have hk := hH.1
  have ht := hTt.1
  have hg := hG.1
  have hr := hR.1
  have htd := hDt.1
  have hsd := hS.1
  have q1 := hD.2.1
  have q2 := hD.2.2.1
  have q3 := hD.2.2.2.1
  have q4 := hD.2.2.2.2
  have u1 := hDt.2.1
  have u2 := hDt.2.2.1
  have u3 := hDt.2.2.2.1
  have u4 := hDt.2.2.2.2
  rw [ok.1, ok.2.2.1] at hd
  refine g_aload_n dX8_setSize_23 rfl (by rfl) ?_
  refine g_getf dX8_setSize_24 fX8_12 (by exact hb) (by omega) (by rfl) ?_
  refine g_getf dX8_setSize_27 fX8_108 (by first | exact hd | exact htd | exact hsd) (by omega) (by rfl) ?_
  refine g_iload_n dX8_setSize_30 rfl (by rfl) ?_
  refine g_iald dX8_setSize_31 (by first | exact q1 | exact q2 | exact q3 | exact q4 | exact u1 | exact u2 | exact u3 | exact u4) (by omega) (by rfl) (by omega) (by omega) ?_
  refine g_istore_n dX8_setSize_32 rfl (by decide) ?_
  refine g_aload_n dX8_setSize_33 rfl (by rfl) ?_
  refine g_getf dX8_setSize_34 fX8_12 (by exact hb) (by omega) (by rfl) ?_
  refine g_getf dX8_setSize_37 fX8_108 (by first | exact hd | exact htd | exact hsd) (by omega) (by rfl) ?_
  refine g_iload_n dX8_setSize_40 rfl (by rfl) ?_
  refine g_iload_n dX8_setSize_41 rfl (by rfl) ?_
  refine g_iast' dX8_setSize_42 (by first | exact q1 | exact q2 | exact q3 | exact q4 | exact u1 | exact u2 | exact u3 | exact u4) (by omega) (by rfl) (by omega) (by omega) (fun h1 e1 => ?_)
  first | have hb_1 := s_up_off e1 (by omega) hb | have hb_1 := s_up_at e1
  first | have hd_1 := s_up_off e1 (by omega) hd | have hd_1 := s_up_at e1
  first | have htd_1 := s_up_off e1 (by omega) htd | have htd_1 := s_up_at e1
  first | have hsd_1 := s_up_off e1 (by omega) hsd | have hsd_1 := s_up_at e1
  first | have hs_1 := s_up_off e1 (by omega) hs | have hs_1 := s_up_at e1
  first | have hk_1 := s_up_off e1 (by omega) hk | have hk_1 := s_up_at e1
  first | have ht_1 := s_up_off e1 (by omega) ht | have ht_1 := s_up_at e1
  first | have hg_1 := s_up_off e1 (by omega) hg | have hg_1 := s_up_at e1
  first | have hr_1 := s_up_off e1 (by omega) hr | have hr_1 := s_up_at e1
  first | have q1_1 := s_up_off e1 (by omega) q1 | have q1_1 := s_up_at e1
  first | have q2_1 := s_up_off e1 (by omega) q2 | have q2_1 := s_up_at e1
  first | have q3_1 := s_up_off e1 (by omega) q3 | have q3_1 := s_up_at e1
  first | have q4_1 := s_up_off e1 (by omega) q4 | have q4_1 := s_up_at e1
  first | have u1_1 := s_up_off e1 (by omega) u1 | have u1_1 := s_up_at e1
  first | have u2_1 := s_up_off e1 (by omega) u2 | have u2_1 := s_up_at e1
  first | have u3_1 := s_up_off e1 (by omega) u3 | have u3_1 := s_up_at e1
  first | have u4_1 := s_up_off e1 (by omega) u4 | have u4_1 := s_up_at e1
  have qd := hD.put 0 (by omega) e1
  have qoff : s_off h9 h1 (b + 1) (b + 6) := s_off.rf.up e1 (by omega)
  have hP := hP.disk qoff qd
  have hoff := hoff.trans (qoff.wide (a := _) (b := _) (a' := b) (b' := b + 93) (by omega) (by omega))
  refine g_iload_n dX8_setSize_43 rfl (by rfl) ?_
  refine g_ireturn dX8_setSize_44 rfl ?_
  exact ⟨rfl, by rw [nI_clamp (by omega)]; rfl, by rw [nI_clamp (by omega)]; exact hP, hoff, hin, hin2⟩

theorem c_X8_setValue {h : s_H} {n b : Nat} {π : s_Pl} (hP : s_pl h b π) (hn : b + 93 ≤ n) {cnt cp : Nat} (ok : d_ok π.1 cnt cp) (hl : π.2.2.2.2.1 ≤ 10) (x y : Int32) : s_Mt TX8_setValue 2 12 [.ref b, .int x, .int y] h n (s_rp n (fun v9 h1 => v9 = some (.int (π.1.1 1 x.toNatClampNeg)) ∧ s_pl h1 b (d_put π.1 1 x.toNatClampNeg y, (pl_rem π).2) ∧ s_off h h1 b (b + 93) ∧ (s_in π x ∧ ¬ (y < 0 ∨ 999 < y))) (fun E h1 => (if s_in π x then E = "java/lang/IllegalArgumentException" else E = "java/lang/IndexOutOfBoundsException") ∧ h1 = h ∧ ¬ (s_in π x ∧ ¬ (y < 0 ∨ 999 < y)))) := by
  obtain ⟨hb, hD, hS, ⟨σt, hDt⟩, ⟨pm, hH⟩, hT, ⟨go, gl, hG, hgl, hgo⟩, ⟨nx, tk, ts, ex, hsc⟩, hR⟩ := id hP
  obtain ⟨τ, hTt, hT0⟩ := id hT
  unfold s_po at hb
  have hd := hD.1
  have hs := hsc.1
  have hk := hH.1
  have ht := hTt.1
  have hg := hG.1
  have hr := hR.1
  have htd := hDt.1
  have hsd := hS.1
  have q1 := hD.2.1
  have q2 := hD.2.2.1
  have q3 := hD.2.2.2.1
  have q4 := hD.2.2.2.2
  have u1 := hDt.2.1
  have u2 := hDt.2.2.1
  have u3 := hDt.2.2.2.1
  have u4 := hDt.2.2.2.2
  rw [ok.1, ok.2.2.1] at hd
  have hoff : s_off h h b (b + 93) := s_off.rf
  refine s_Mt_of rfl (by decide) (by exact Nat.le_of_ble_eq_true rfl) ?_
  refine g_aload_n dX8_setValue_0 rfl (by rfl) ?_
  refine g_iload_n dX8_setValue_1 rfl (by rfl) ?_
  refine g_callV_x (c_X8_requireItem hP hn x) dX8_setValue_2 (mX8_requireItem) rfl lX8_102 iX8_requireItem vX8_requireItem (by decide) (by omega) (by exact hb) rfl rfl rfl rfl (Nat.le_of_ble_eq_true rfl) (Nat.le_of_ble_eq_true rfl) (Nat.le_of_ble_eq_true rfl) (fun v9 h9 z9 => ?_) (fun E9 h9 z9 => gx_out rfl ⟨rfl, by rw [if_neg z9.2.2]; exact z9.1, z9.2.1, fun z => z9.2.2 z.1⟩)
  obtain ⟨rfl, hh, hin⟩ := z9
  have hh := hh.symm
  subst hh
  obtain ⟨i, rfl, hi⟩ := s_in.nat hin ok
  have hi14 := ok.2.1
  refine g_iload_n dX8_setValue_5 rfl (by rfl) ?_
  refine g_iconst 0 dX8_setValue_6 (by rfl) ?_
  refine g_sipush 999 dX8_setValue_7 (by rfl) ?_
  refine g_callS_x (c_X8_requireWithin y 0 999) dX8_setValue_10 (mX8_requireWithin) rfl lX8_80 sX8_requireWithin (by decide) rfl rfl (Nat.le_of_ble_eq_true rfl) (Nat.le_of_ble_eq_true rfl) (Nat.le_of_ble_eq_true rfl) (fun v9 h9 z9 => ?_) (fun E9 h9 z9 => gx_out rfl ⟨rfl, by rw [if_pos hin]; exact z9.1, z9.2.1, fun z => z.2 z9.2.2⟩)
  obtain ⟨rfl, hh, hin2⟩ := z9
  have hh := hh.symm
  subst hh
  refine g_aload_n dX8_setValue_13 rfl (by rfl) ?_
  refine g_getf dX8_setValue_14 fX8_29 (by exact hb) (by omega) (by rfl) ?_
  refine g_aload_n dX8_setValue_17 rfl (by rfl) ?_
  refine g_getf dX8_setValue_18 fX8_12 (by exact hb) (by omega) (by rfl) ?_
  refine g_callV_p (c_X4_remember hH (by omega) hD (by omega) (by omega) hl) dX8_setValue_21 (mX4_remember) rfl lX8_92 iX4_remember vX4_remember (by decide) (by omega) (by exact hk) rfl rfl rfl rfl (Nat.le_of_ble_eq_true rfl) (fun v9 h9 z9 => ?_)
  obtain ⟨rfl, qh, qoff⟩ := z9
  have hP : s_pl h9 b (pl_rem π) := hP.hist qoff qh
  have hoff := hoff.trans (qoff.wide (a := _) (b := _) (a' := b) (b' := b + 93) (by omega) (by omega))
  have ok : d_ok (pl_rem π).1 cnt cp := ok
  obtain ⟨hb, hD, hS, ⟨σt, hDt⟩, ⟨pm, hH⟩, hT, ⟨go, gl, hG, hgl, hgo⟩, ⟨nx, tk, ts, ex, hsc⟩, hR⟩ := id hP
  obtain ⟨τ, hTt, hT0⟩ := id hT
  unfold s_po at hb
  have hd := hD.1
  have hs := hsc.1
  have hk := hH.1
  have ht := hTt.1
  have hg := hG.1
  have hr := hR.1
  have htd := hDt.1
  have hsd := hS.1
  have q1 := hD.2.1
  have q2 := hD.2.2.1
  have q3 := hD.2.2.2.1
  have q4 := hD.2.2.2.2
  have u1 := hDt.2.1
  have u2 := hDt.2.2.1
  have u3 := hDt.2.2.2.1
  have u4 := hDt.2.2.2.2
  rw [ok.1, ok.2.2.1] at hd
  refine g_aload_n dX8_setValue_24 rfl (by rfl) ?_
  refine g_getf dX8_setValue_25 fX8_12 (by exact hb) (by omega) (by rfl) ?_
  refine g_getf dX8_setValue_28 fX8_111 (by first | exact hd | exact htd | exact hsd) (by omega) (by rfl) ?_
  refine g_iload_n dX8_setValue_31 rfl (by rfl) ?_
  refine g_iald dX8_setValue_32 (by first | exact q1 | exact q2 | exact q3 | exact q4 | exact u1 | exact u2 | exact u3 | exact u4) (by omega) (by rfl) (by omega) (by omega) ?_
  refine g_istore_n dX8_setValue_33 rfl (by decide) ?_
  refine g_aload_n dX8_setValue_34 rfl (by rfl) ?_
  refine g_getf dX8_setValue_35 fX8_12 (by exact hb) (by omega) (by rfl) ?_
  refine g_getf dX8_setValue_38 fX8_111 (by first | exact hd | exact htd | exact hsd) (by omega) (by rfl) ?_
  refine g_iload_n dX8_setValue_41 rfl (by rfl) ?_
  refine g_iload_n dX8_setValue_42 rfl (by rfl) ?_
  refine g_iast' dX8_setValue_43 (by first | exact q1 | exact q2 | exact q3 | exact q4 | exact u1 | exact u2 | exact u3 | exact u4) (by omega) (by rfl) (by omega) (by omega) (fun h1 e1 => ?_)
  first | have hb_1 := s_up_off e1 (by omega) hb | have hb_1 := s_up_at e1
  first | have hd_1 := s_up_off e1 (by omega) hd | have hd_1 := s_up_at e1
  first | have htd_1 := s_up_off e1 (by omega) htd | have htd_1 := s_up_at e1
  first | have hsd_1 := s_up_off e1 (by omega) hsd | have hsd_1 := s_up_at e1
  first | have hs_1 := s_up_off e1 (by omega) hs | have hs_1 := s_up_at e1
  first | have hk_1 := s_up_off e1 (by omega) hk | have hk_1 := s_up_at e1
  first | have ht_1 := s_up_off e1 (by omega) ht | have ht_1 := s_up_at e1
  first | have hg_1 := s_up_off e1 (by omega) hg | have hg_1 := s_up_at e1
  first | have hr_1 := s_up_off e1 (by omega) hr | have hr_1 := s_up_at e1
  first | have q1_1 := s_up_off e1 (by omega) q1 | have q1_1 := s_up_at e1
  first | have q2_1 := s_up_off e1 (by omega) q2 | have q2_1 := s_up_at e1
  first | have q3_1 := s_up_off e1 (by omega) q3 | have q3_1 := s_up_at e1
  first | have q4_1 := s_up_off e1 (by omega) q4 | have q4_1 := s_up_at e1
  first | have u1_1 := s_up_off e1 (by omega) u1 | have u1_1 := s_up_at e1
  first | have u2_1 := s_up_off e1 (by omega) u2 | have u2_1 := s_up_at e1
  first | have u3_1 := s_up_off e1 (by omega) u3 | have u3_1 := s_up_at e1
  first | have u4_1 := s_up_off e1 (by omega) u4 | have u4_1 := s_up_at e1
  have qd := hD.put 1 (by omega) e1
  have qoff : s_off h9 h1 (b + 1) (b + 6) := s_off.rf.up e1 (by omega)
  have hP := hP.disk qoff qd
  have hoff := hoff.trans (qoff.wide (a := _) (b := _) (a' := b) (b' := b + 93) (by omega) (by omega))
  refine g_iload_n dX8_setValue_44 rfl (by rfl) ?_
  refine g_ireturn dX8_setValue_45 rfl ?_
  exact ⟨rfl, by rw [nI_clamp (by omega)]; rfl, by rw [nI_clamp (by omega)]; exact hP, hoff, hin, hin2⟩

theorem c_X8_changeState {h : s_H} {n b : Nat} {π : s_Pl} (hP : s_pl h b π) (hn : b + 93 ≤ n) {cnt cp : Nat} (ok : d_ok π.1 cnt cp) (hl : π.2.2.2.2.1 ≤ 10) (x st : Int32) : s_Mt TX8_changeState 1 6 [.ref b, .int x, .int st] h n (s_rp n (fun v9 h1 => v9 = some (.int (π.1.1 3 x.toNatClampNeg)) ∧ s_pl h1 b (d_put π.1 3 x.toNatClampNeg st, (pl_rem π).2) ∧ s_off h h1 b (b + 93) ∧ s_in π x) (fun E h1 => E = "java/lang/IndexOutOfBoundsException" ∧ h1 = h ∧ ¬ s_in π x)) := by
  obtain ⟨hb, hD, hS, ⟨σt, hDt⟩, ⟨pm, hH⟩, hT, ⟨go, gl, hG, hgl, hgo⟩, ⟨nx, tk, ts, ex, hsc⟩, hR⟩ := id hP
  obtain ⟨τ, hTt, hT0⟩ := id hT
  unfold s_po at hb
  have hd := hD.1
  have hs := hsc.1
  have hk := hH.1
  have ht := hTt.1
  have hg := hG.1
  have hr := hR.1
  have htd := hDt.1
  have hsd := hS.1
  have q1 := hD.2.1
  have q2 := hD.2.2.1
  have q3 := hD.2.2.2.1
  have q4 := hD.2.2.2.2
  have u1 := hDt.2.1
  have u2 := hDt.2.2.1
  have u3 := hDt.2.2.2.1
  have u4 := hDt.2.2.2.2
  rw [ok.1, ok.2.2.1] at hd
  have hoff : s_off h h b (b + 93) := s_off.rf
  refine s_Mt_of rfl (by decide) (by exact Nat.le_of_ble_eq_true rfl) ?_
  refine g_aload_n dX8_changeState_0 rfl (by rfl) ?_
  refine g_iload_n dX8_changeState_1 rfl (by rfl) ?_
  refine g_callV_x (c_X8_requireItem hP hn x) dX8_changeState_2 (mX8_requireItem) rfl lX8_102 iX8_requireItem vX8_requireItem (by decide) (by omega) (by exact hb) rfl rfl rfl rfl (Nat.le_of_ble_eq_true rfl) (Nat.le_of_ble_eq_true rfl) (Nat.le_of_ble_eq_true rfl) (fun v9 h9 z9 => ?_) (fun E9 h9 z9 => gx_out rfl ⟨rfl, z9.1, z9.2.1, z9.2.2⟩)
  obtain ⟨rfl, hh, hin⟩ := z9
  have hh := hh.symm
  subst hh
  obtain ⟨i, rfl, hi⟩ := s_in.nat hin ok
  have hi14 := ok.2.1
  refine g_aload_n dX8_changeState_5 rfl (by rfl) ?_
  refine g_getf dX8_changeState_6 fX8_29 (by exact hb) (by omega) (by rfl) ?_
  refine g_aload_n dX8_changeState_9 rfl (by rfl) ?_
  refine g_getf dX8_changeState_10 fX8_12 (by exact hb) (by omega) (by rfl) ?_
  refine g_callV_p (c_X4_remember hH (by omega) hD (by omega) (by omega) hl) dX8_changeState_13 (mX4_remember) rfl lX8_92 iX4_remember vX4_remember (by decide) (by omega) (by exact hk) rfl rfl rfl rfl (Nat.le_of_ble_eq_true rfl) (fun v9 h9 z9 => ?_)
  obtain ⟨rfl, qh, qoff⟩ := z9
  have hP : s_pl h9 b (pl_rem π) := hP.hist qoff qh
  have hoff := hoff.trans (qoff.wide (a := _) (b := _) (a' := b) (b' := b + 93) (by omega) (by omega))
  have ok : d_ok (pl_rem π).1 cnt cp := ok
  obtain ⟨hb, hD, hS, ⟨σt, hDt⟩, ⟨pm, hH⟩, hT, ⟨go, gl, hG, hgl, hgo⟩, ⟨nx, tk, ts, ex, hsc⟩, hR⟩ := id hP
  obtain ⟨τ, hTt, hT0⟩ := id hT
  unfold s_po at hb
  have hd := hD.1
  have hs := hsc.1
  have hk := hH.1
  have ht := hTt.1
  have hg := hG.1
  have hr := hR.1
  have htd := hDt.1
  have hsd := hS.1
  have q1 := hD.2.1
  have q2 := hD.2.2.1
  have q3 := hD.2.2.2.1
  have q4 := hD.2.2.2.2
  have u1 := hDt.2.1
  have u2 := hDt.2.2.1
  have u3 := hDt.2.2.2.1
  have u4 := hDt.2.2.2.2
  rw [ok.1, ok.2.2.1] at hd
  refine g_aload_n dX8_changeState_16 rfl (by rfl) ?_
  refine g_getf dX8_changeState_17 fX8_12 (by exact hb) (by omega) (by rfl) ?_
  refine g_getf dX8_changeState_20 fX8_69 (by first | exact hd | exact htd | exact hsd) (by omega) (by rfl) ?_
  refine g_iload_n dX8_changeState_23 rfl (by rfl) ?_
  refine g_iald dX8_changeState_24 (by first | exact q1 | exact q2 | exact q3 | exact q4 | exact u1 | exact u2 | exact u3 | exact u4) (by omega) (by rfl) (by omega) (by omega) ?_
  refine g_istore_n dX8_changeState_25 rfl (by decide) ?_
  refine g_aload_n dX8_changeState_26 rfl (by rfl) ?_
  refine g_getf dX8_changeState_27 fX8_12 (by exact hb) (by omega) (by rfl) ?_
  refine g_getf dX8_changeState_30 fX8_69 (by first | exact hd | exact htd | exact hsd) (by omega) (by rfl) ?_
  refine g_iload_n dX8_changeState_33 rfl (by rfl) ?_
  refine g_iload_n dX8_changeState_34 rfl (by rfl) ?_
  refine g_iast' dX8_changeState_35 (by first | exact q1 | exact q2 | exact q3 | exact q4 | exact u1 | exact u2 | exact u3 | exact u4) (by omega) (by rfl) (by omega) (by omega) (fun h1 e1 => ?_)
  first | have hb_1 := s_up_off e1 (by omega) hb | have hb_1 := s_up_at e1
  first | have hd_1 := s_up_off e1 (by omega) hd | have hd_1 := s_up_at e1
  first | have htd_1 := s_up_off e1 (by omega) htd | have htd_1 := s_up_at e1
  first | have hsd_1 := s_up_off e1 (by omega) hsd | have hsd_1 := s_up_at e1
  first | have hs_1 := s_up_off e1 (by omega) hs | have hs_1 := s_up_at e1
  first | have hk_1 := s_up_off e1 (by omega) hk | have hk_1 := s_up_at e1
  first | have ht_1 := s_up_off e1 (by omega) ht | have ht_1 := s_up_at e1
  first | have hg_1 := s_up_off e1 (by omega) hg | have hg_1 := s_up_at e1
  first | have hr_1 := s_up_off e1 (by omega) hr | have hr_1 := s_up_at e1
  first | have q1_1 := s_up_off e1 (by omega) q1 | have q1_1 := s_up_at e1
  first | have q2_1 := s_up_off e1 (by omega) q2 | have q2_1 := s_up_at e1
  first | have q3_1 := s_up_off e1 (by omega) q3 | have q3_1 := s_up_at e1
  first | have q4_1 := s_up_off e1 (by omega) q4 | have q4_1 := s_up_at e1
  first | have u1_1 := s_up_off e1 (by omega) u1 | have u1_1 := s_up_at e1
  first | have u2_1 := s_up_off e1 (by omega) u2 | have u2_1 := s_up_at e1
  first | have u3_1 := s_up_off e1 (by omega) u3 | have u3_1 := s_up_at e1
  first | have u4_1 := s_up_off e1 (by omega) u4 | have u4_1 := s_up_at e1
  have qd := hD.put 3 (by omega) e1
  have qoff : s_off h9 h1 (b + 1) (b + 6) := s_off.rf.up e1 (by omega)
  have hP := hP.disk qoff qd
  have hoff := hoff.trans (qoff.wide (a := _) (b := _) (a' := b) (b' := b + 93) (by omega) (by omega))
  refine g_iload_n dX8_changeState_36 rfl (by rfl) ?_
  refine g_ireturn dX8_changeState_37 rfl ?_
  exact ⟨rfl, by rw [nI_clamp (by omega)]; rfl, by rw [nI_clamp (by omega)]; exact hP, hoff, hin⟩

theorem c_X8_pin {h : s_H} {n b : Nat} {π : s_Pl} (hP : s_pl h b π) (hn : b + 93 ≤ n) {cnt cp : Nat} (ok : d_ok π.1 cnt cp) (hl : π.2.2.2.2.1 ≤ 10) (x : Int32) : s_Mt TX8_pin 1 6 [.ref b, .int x] h n (s_rp n (fun v9 h1 => v9 = some (.int (π.1.1 3 x.toNatClampNeg)) ∧ s_pl h1 b (d_put π.1 3 x.toNatClampNeg 1, (pl_rem π).2) ∧ s_off h h1 b (b + 93) ∧ s_in π x) (fun E h1 => E = "java/lang/IndexOutOfBoundsException" ∧ h1 = h ∧ ¬ s_in π x)) := by
  obtain ⟨hb, hD, hS, ⟨σt, hDt⟩, ⟨pm, hH⟩, hT, ⟨go, gl, hG, hgl, hgo⟩, ⟨nx, tk, ts, ex, hsc⟩, hR⟩ := id hP
  obtain ⟨τ, hTt, hT0⟩ := id hT
  unfold s_po at hb
  have hd := hD.1
  have hs := hsc.1
  have hk := hH.1
  have ht := hTt.1
  have hg := hG.1
  have hr := hR.1
  have htd := hDt.1
  have hsd := hS.1
  have q1 := hD.2.1
  have q2 := hD.2.2.1
  have q3 := hD.2.2.2.1
  have q4 := hD.2.2.2.2
  have u1 := hDt.2.1
  have u2 := hDt.2.2.1
  have u3 := hDt.2.2.2.1
  have u4 := hDt.2.2.2.2
  rw [ok.1, ok.2.2.1] at hd
  have hoff : s_off h h b (b + 93) := s_off.rf
  refine s_Mt_of rfl (by decide) (by exact Nat.le_of_ble_eq_true rfl) ?_
  refine g_aload_n dX8_pin_0 rfl (by rfl) ?_
  refine g_iload_n dX8_pin_1 rfl (by rfl) ?_
  refine g_iconst 1 dX8_pin_2 (by rfl) ?_
  refine g_callV_x (c_X8_changeState hP hn ok hl x 1) dX8_pin_3 (mX8_changeState) rfl lX8_114 iX8_changeState vX8_changeState (by decide) (by omega) (by exact hb) rfl rfl rfl rfl (Nat.le_of_ble_eq_true rfl) (Nat.le_of_ble_eq_true rfl) (Nat.le_of_ble_eq_true rfl) (fun v9 h9 z9 => ?_) (fun E9 h9 z9 => gx_out rfl ⟨rfl, z9⟩)
  obtain ⟨rfl, z9⟩ := z9
  refine g_ireturn dX8_pin_6 rfl ?_
  exact ⟨rfl, rfl, z9⟩

theorem c_X8_exclude {h : s_H} {n b : Nat} {π : s_Pl} (hP : s_pl h b π) (hn : b + 93 ≤ n) {cnt cp : Nat} (ok : d_ok π.1 cnt cp) (hl : π.2.2.2.2.1 ≤ 10) (x : Int32) : s_Mt TX8_exclude 1 6 [.ref b, .int x] h n (s_rp n (fun v9 h1 => v9 = some (.int (π.1.1 3 x.toNatClampNeg)) ∧ s_pl h1 b (d_put π.1 3 x.toNatClampNeg 2, (pl_rem π).2) ∧ s_off h h1 b (b + 93) ∧ s_in π x) (fun E h1 => E = "java/lang/IndexOutOfBoundsException" ∧ h1 = h ∧ ¬ s_in π x)) := by
  obtain ⟨hb, hD, hS, ⟨σt, hDt⟩, ⟨pm, hH⟩, hT, ⟨go, gl, hG, hgl, hgo⟩, ⟨nx, tk, ts, ex, hsc⟩, hR⟩ := id hP
  obtain ⟨τ, hTt, hT0⟩ := id hT
  unfold s_po at hb
  have hd := hD.1
  have hs := hsc.1
  have hk := hH.1
  have ht := hTt.1
  have hg := hG.1
  have hr := hR.1
  have htd := hDt.1
  have hsd := hS.1
  have q1 := hD.2.1
  have q2 := hD.2.2.1
  have q3 := hD.2.2.2.1
  have q4 := hD.2.2.2.2
  have u1 := hDt.2.1
  have u2 := hDt.2.2.1
  have u3 := hDt.2.2.2.1
  have u4 := hDt.2.2.2.2
  rw [ok.1, ok.2.2.1] at hd
  have hoff : s_off h h b (b + 93) := s_off.rf
  refine s_Mt_of rfl (by decide) (by exact Nat.le_of_ble_eq_true rfl) ?_
  refine g_aload_n dX8_exclude_0 rfl (by rfl) ?_
  refine g_iload_n dX8_exclude_1 rfl (by rfl) ?_
  refine g_iconst 2 dX8_exclude_2 (by rfl) ?_
  refine g_callV_x (c_X8_changeState hP hn ok hl x 2) dX8_exclude_3 (mX8_changeState) rfl lX8_114 iX8_changeState vX8_changeState (by decide) (by omega) (by exact hb) rfl rfl rfl rfl (Nat.le_of_ble_eq_true rfl) (Nat.le_of_ble_eq_true rfl) (Nat.le_of_ble_eq_true rfl) (fun v9 h9 z9 => ?_) (fun E9 h9 z9 => gx_out rfl ⟨rfl, z9⟩)
  obtain ⟨rfl, z9⟩ := z9
  refine g_ireturn dX8_exclude_6 rfl ?_
  exact ⟨rfl, rfl, z9⟩

theorem c_X8_release {h : s_H} {n b : Nat} {π : s_Pl} (hP : s_pl h b π) (hn : b + 93 ≤ n) {cnt cp : Nat} (ok : d_ok π.1 cnt cp) (hl : π.2.2.2.2.1 ≤ 10) (x : Int32) : s_Mt TX8_release 1 6 [.ref b, .int x] h n (s_rp n (fun v9 h1 => v9 = some (.int (π.1.1 3 x.toNatClampNeg)) ∧ s_pl h1 b (d_put π.1 3 x.toNatClampNeg 0, (pl_rem π).2) ∧ s_off h h1 b (b + 93) ∧ s_in π x) (fun E h1 => E = "java/lang/IndexOutOfBoundsException" ∧ h1 = h ∧ ¬ s_in π x)) := by
  obtain ⟨hb, hD, hS, ⟨σt, hDt⟩, ⟨pm, hH⟩, hT, ⟨go, gl, hG, hgl, hgo⟩, ⟨nx, tk, ts, ex, hsc⟩, hR⟩ := id hP
  obtain ⟨τ, hTt, hT0⟩ := id hT
  unfold s_po at hb
  have hd := hD.1
  have hs := hsc.1
  have hk := hH.1
  have ht := hTt.1
  have hg := hG.1
  have hr := hR.1
  have htd := hDt.1
  have hsd := hS.1
  have q1 := hD.2.1
  have q2 := hD.2.2.1
  have q3 := hD.2.2.2.1
  have q4 := hD.2.2.2.2
  have u1 := hDt.2.1
  have u2 := hDt.2.2.1
  have u3 := hDt.2.2.2.1
  have u4 := hDt.2.2.2.2
  rw [ok.1, ok.2.2.1] at hd
  have hoff : s_off h h b (b + 93) := s_off.rf
  refine s_Mt_of rfl (by decide) (by exact Nat.le_of_ble_eq_true rfl) ?_
  refine g_aload_n dX8_release_0 rfl (by rfl) ?_
  refine g_iload_n dX8_release_1 rfl (by rfl) ?_
  refine g_iconst 0 dX8_release_2 (by rfl) ?_
  refine g_callV_x (c_X8_changeState hP hn ok hl x 0) dX8_release_3 (mX8_changeState) rfl lX8_114 iX8_changeState vX8_changeState (by decide) (by omega) (by exact hb) rfl rfl rfl rfl (Nat.le_of_ble_eq_true rfl) (Nat.le_of_ble_eq_true rfl) (Nat.le_of_ble_eq_true rfl) (fun v9 h9 z9 => ?_) (fun E9 h9 z9 => gx_out rfl ⟨rfl, z9⟩)
  obtain ⟨rfl, z9⟩ := z9
  refine g_ireturn dX8_release_6 rfl ?_
  exact ⟨rfl, rfl, z9⟩

theorem c_X8_setCapacity {h : s_H} {n b : Nat} {π : s_Pl} (hP : s_pl h b π) (hn : b + 93 ≤ n) {cnt cp : Nat} (ok : d_ok π.1 cnt cp) (hl : π.2.2.2.2.1 ≤ 10) (x : Int32) : s_Mt TX8_setCapacity 1 6 [.ref b, .int x] h n (s_rp n (fun v9 h1 => v9 = some (.int (π.1.2 1)) ∧ s_pl h1 b (d_cap π.1 x, (pl_rem π).2) ∧ s_off h h1 b (b + 93) ∧ ¬ (x < 0 ∨ 100 < x)) (fun E h1 => E = "java/lang/IllegalArgumentException" ∧ h1 = h ∧ ¬ ¬ (x < 0 ∨ 100 < x))) := by
  obtain ⟨hb, hD, hS, ⟨σt, hDt⟩, ⟨pm, hH⟩, hT, ⟨go, gl, hG, hgl, hgo⟩, ⟨nx, tk, ts, ex, hsc⟩, hR⟩ := id hP
  obtain ⟨τ, hTt, hT0⟩ := id hT
  unfold s_po at hb
  have hd := hD.1
  have hs := hsc.1
  have hk := hH.1
  have ht := hTt.1
  have hg := hG.1
  have hr := hR.1
  have htd := hDt.1
  have hsd := hS.1
  have q1 := hD.2.1
  have q2 := hD.2.2.1
  have q3 := hD.2.2.2.1
  have q4 := hD.2.2.2.2
  have u1 := hDt.2.1
  have u2 := hDt.2.2.1
  have u3 := hDt.2.2.2.1
  have u4 := hDt.2.2.2.2
  have hoff : s_off h h b (b + 93) := s_off.rf
  refine s_Mt_of rfl (by decide) (by exact Nat.le_of_ble_eq_true rfl) ?_
  refine g_iload_n dX8_setCapacity_0 rfl (by rfl) ?_
  refine g_iconst 0 dX8_setCapacity_1 (by rfl) ?_
  refine g_bipush 100 dX8_setCapacity_2 (by rfl) ?_
  refine g_callS_x (c_X8_requireWithin x 0 100) dX8_setCapacity_4 (mX8_requireWithin) rfl lX8_80 sX8_requireWithin (by decide) rfl rfl (Nat.le_of_ble_eq_true rfl) (Nat.le_of_ble_eq_true rfl) (Nat.le_of_ble_eq_true rfl) (fun v9 h9 z9 => ?_) (fun E9 h9 z9 => gx_out rfl ⟨rfl, z9.1, z9.2.1, fun z => z z9.2.2⟩)
  obtain ⟨rfl, hh, hin⟩ := z9
  have hh := hh.symm
  subst hh
  refine g_aload_n dX8_setCapacity_7 rfl (by rfl) ?_
  refine g_getf dX8_setCapacity_8 fX8_29 (by exact hb) (by omega) (by rfl) ?_
  refine g_aload_n dX8_setCapacity_11 rfl (by rfl) ?_
  refine g_getf dX8_setCapacity_12 fX8_12 (by exact hb) (by omega) (by rfl) ?_
  refine g_callV_p (c_X4_remember hH (by omega) hD (by omega) (by omega) hl) dX8_setCapacity_15 (mX4_remember) rfl lX8_92 iX4_remember vX4_remember (by decide) (by omega) (by exact hk) rfl rfl rfl rfl (Nat.le_of_ble_eq_true rfl) (fun v9 h9 z9 => ?_)
  obtain ⟨rfl, qh, qoff⟩ := z9
  have hP : s_pl h9 b (pl_rem π) := hP.hist qoff qh
  have hoff := hoff.trans (qoff.wide (a := _) (b := _) (a' := b) (b' := b + 93) (by omega) (by omega))
  have ok : d_ok (pl_rem π).1 cnt cp := ok
  obtain ⟨hb, hD, hS, ⟨σt, hDt⟩, ⟨pm, hH⟩, hT, ⟨go, gl, hG, hgl, hgo⟩, ⟨nx, tk, ts, ex, hsc⟩, hR⟩ := id hP
  obtain ⟨τ, hTt, hT0⟩ := id hT
  unfold s_po at hb
  have hd := hD.1
  have hs := hsc.1
  have hk := hH.1
  have ht := hTt.1
  have hg := hG.1
  have hr := hR.1
  have htd := hDt.1
  have hsd := hS.1
  have q1 := hD.2.1
  have q2 := hD.2.2.1
  have q3 := hD.2.2.2.1
  have q4 := hD.2.2.2.2
  have u1 := hDt.2.1
  have u2 := hDt.2.2.1
  have u3 := hDt.2.2.2.1
  have u4 := hDt.2.2.2.2
  refine g_aload_n dX8_setCapacity_18 rfl (by rfl) ?_
  refine g_getf dX8_setCapacity_19 fX8_12 (by exact hb) (by omega) (by rfl) ?_
  refine g_getf dX8_setCapacity_22 fX8_118 (by first | exact hd | exact htd | exact hsd) (by omega) (by rfl) ?_
  refine g_istore_n dX8_setCapacity_25 rfl (by decide) ?_
  refine g_aload_n dX8_setCapacity_26 rfl (by rfl) ?_
  refine g_getf dX8_setCapacity_27 fX8_12 (by exact hb) (by omega) (by rfl) ?_
  refine g_iload_n dX8_setCapacity_30 rfl (by rfl) ?_
  refine g_putf' dX8_setCapacity_31 pX8_118 (by first | exact hd | exact htd | exact hsd) (by omega) (by exact Nat.le_of_ble_eq_true rfl) (by rfl) (by rfl) (fun h1 e1 => ?_)
  first | have hb_1 := s_up_off e1 (by omega) hb | have hb_1 := s_up_at e1
  first | have hd_1 := s_up_off e1 (by omega) hd | have hd_1 := s_up_at e1
  first | have htd_1 := s_up_off e1 (by omega) htd | have htd_1 := s_up_at e1
  first | have hsd_1 := s_up_off e1 (by omega) hsd | have hsd_1 := s_up_at e1
  first | have hs_1 := s_up_off e1 (by omega) hs | have hs_1 := s_up_at e1
  first | have hk_1 := s_up_off e1 (by omega) hk | have hk_1 := s_up_at e1
  first | have ht_1 := s_up_off e1 (by omega) ht | have ht_1 := s_up_at e1
  first | have hg_1 := s_up_off e1 (by omega) hg | have hg_1 := s_up_at e1
  first | have hr_1 := s_up_off e1 (by omega) hr | have hr_1 := s_up_at e1
  first | have q1_1 := s_up_off e1 (by omega) q1 | have q1_1 := s_up_at e1
  first | have q2_1 := s_up_off e1 (by omega) q2 | have q2_1 := s_up_at e1
  first | have q3_1 := s_up_off e1 (by omega) q3 | have q3_1 := s_up_at e1
  first | have q4_1 := s_up_off e1 (by omega) q4 | have q4_1 := s_up_at e1
  first | have u1_1 := s_up_off e1 (by omega) u1 | have u1_1 := s_up_at e1
  first | have u2_1 := s_up_off e1 (by omega) u2 | have u2_1 := s_up_at e1
  first | have u3_1 := s_up_off e1 (by omega) u3 | have u3_1 := s_up_at e1
  first | have u4_1 := s_up_off e1 (by omega) u4 | have u4_1 := s_up_at e1
  have qd : s_disk h1 (b + 1) (d_cap π.1 x) := ⟨hd_1, q1_1, q2_1, q3_1, q4_1⟩
  have qoff : s_off h9 h1 (b + 1) (b + 6) := s_off.rf.up e1 (by omega)
  have hP := hP.disk qoff qd
  have hoff := hoff.trans (qoff.wide (a := _) (b := _) (a' := b) (b' := b + 93) (by omega) (by omega))
  refine g_iload_n dX8_setCapacity_34 rfl (by rfl) ?_
  refine g_ireturn dX8_setCapacity_35 rfl ?_
  exact ⟨rfl, rfl, hP, hoff, hin⟩

theorem c_X8_addItem {h : s_H} {n b : Nat} {π : s_Pl} (hP : s_pl h b π) (hn : b + 93 ≤ n) {cnt cp : Nat} (ok : d_ok π.1 cnt cp) (hl : π.2.2.2.2.1 ≤ 10) (x y : Int32) : s_Mt TX8_addItem 2 12 [.ref b, .int x, .int y] h n (s_rp n (fun v9 h1 => v9 = some (.int (if cnt = 14 then -2 else nI cnt)) ∧ s_pl h1 b (if cnt = 14 then π else (d_add π.1 cnt x y, (pl_rem π).2)) ∧ s_off h h1 b (b + 93) ∧ (¬ (x < 1 ∨ 60 < x) ∧ ¬ (y < 0 ∨ 999 < y))) (fun E h1 => E = "java/lang/IllegalArgumentException" ∧ h1 = h ∧ ¬ (¬ (x < 1 ∨ 60 < x) ∧ ¬ (y < 0 ∨ 999 < y)))) := by
  obtain ⟨hb, hD, hS, ⟨σt, hDt⟩, ⟨pm, hH⟩, hT, ⟨go, gl, hG, hgl, hgo⟩, ⟨nx, tk, ts, ex, hsc⟩, hR⟩ := id hP
  obtain ⟨τ, hTt, hT0⟩ := id hT
  unfold s_po at hb
  have hd := hD.1
  have hs := hsc.1
  have hk := hH.1
  have ht := hTt.1
  have hg := hG.1
  have hr := hR.1
  have htd := hDt.1
  have hsd := hS.1
  have q1 := hD.2.1
  have q2 := hD.2.2.1
  have q3 := hD.2.2.2.1
  have q4 := hD.2.2.2.2
  have u1 := hDt.2.1
  have u2 := hDt.2.2.1
  have u3 := hDt.2.2.2.1
  have u4 := hDt.2.2.2.2
  rw [ok.1, ok.2.2.1] at hd
  have hoff : s_off h h b (b + 93) := s_off.rf
  refine s_Mt_of rfl (by decide) (by exact Nat.le_of_ble_eq_true rfl) ?_
  refine g_iload_n dX8_addItem_0 rfl (by rfl) ?_
  refine g_iconst 1 dX8_addItem_1 (by rfl) ?_
  refine g_bipush 60 dX8_addItem_2 (by rfl) ?_
  refine g_callS_x (c_X8_requireWithin x 1 60) dX8_addItem_4 (mX8_requireWithin) rfl lX8_80 sX8_requireWithin (by decide) rfl rfl (Nat.le_of_ble_eq_true rfl) (Nat.le_of_ble_eq_true rfl) (Nat.le_of_ble_eq_true rfl) (fun v9 h9 z9 => ?_) (fun E9 h9 z9 => gx_out rfl ⟨rfl, z9.1, z9.2.1, fun z => z.1 z9.2.2⟩)
  obtain ⟨rfl, hh, hin⟩ := z9
  have hh := hh.symm
  subst hh
  refine g_iload_n dX8_addItem_7 rfl (by rfl) ?_
  refine g_iconst 0 dX8_addItem_8 (by rfl) ?_
  refine g_sipush 999 dX8_addItem_9 (by rfl) ?_
  refine g_callS_x (c_X8_requireWithin y 0 999) dX8_addItem_12 (mX8_requireWithin) rfl lX8_80 sX8_requireWithin (by decide) rfl rfl (Nat.le_of_ble_eq_true rfl) (Nat.le_of_ble_eq_true rfl) (Nat.le_of_ble_eq_true rfl) (fun v9 h9 z9 => ?_) (fun E9 h9 z9 => gx_out rfl ⟨rfl, z9.1, z9.2.1, fun z => z.2 z9.2.2⟩)
  obtain ⟨rfl, hh, hin2⟩ := z9
  have hh := hh.symm
  subst hh
  refine g_aload_n dX8_addItem_15 rfl (by rfl) ?_
  refine g_getf dX8_addItem_16 fX8_12 (by exact hb) (by omega) (by rfl) ?_
  refine g_getf dX8_addItem_19 fX8_99 (by first | exact hd | exact htd | exact hsd) (by omega) (by rfl) ?_
  refine g_bipush 14 dX8_addItem_22 (by rfl) ?_
  refine g_icmp_lt (tgt := 30) dX8_addItem_24 (by decide) (fun c_24 => ?_) (fun c_24 => ?_)
  · have hlt : cnt < 14 := Nat.lt_of_not_le fun z => absurd c_24 (Int32.not_lt.mpr (show nI 14 ≤ nI cnt from nI_le z (by have := ok.2.1; omega)))
    refine g_aload_n dX8_addItem_30 rfl (by rfl) ?_
    refine g_getf dX8_addItem_31 fX8_29 (by exact hb) (by omega) (by rfl) ?_
    refine g_aload_n dX8_addItem_34 rfl (by rfl) ?_
    refine g_getf dX8_addItem_35 fX8_12 (by exact hb) (by omega) (by rfl) ?_
    refine g_callV_p (c_X4_remember hH (by omega) hD (by omega) (by omega) hl) dX8_addItem_38 (mX4_remember) rfl lX8_92 iX4_remember vX4_remember (by decide) (by omega) (by exact hk) rfl rfl rfl rfl (Nat.le_of_ble_eq_true rfl) (fun v9 h9 z9 => ?_)
    obtain ⟨rfl, qh, qoff⟩ := z9
    have hP : s_pl h9 b (pl_rem π) := hP.hist qoff qh
    have hoff := hoff.trans (qoff.wide (a := _) (b := _) (a' := b) (b' := b + 93) (by omega) (by omega))
    have ok : d_ok (pl_rem π).1 cnt cp := ok
    obtain ⟨hb, hD, hS, ⟨σt, hDt⟩, ⟨pm, hH⟩, hT, ⟨go, gl, hG, hgl, hgo⟩, ⟨nx, tk, ts, ex, hsc⟩, hR⟩ := id hP
    obtain ⟨τ, hTt, hT0⟩ := id hT
    unfold s_po at hb
    have hd := hD.1
    have hs := hsc.1
    have hk := hH.1
    have ht := hTt.1
    have hg := hG.1
    have hr := hR.1
    have htd := hDt.1
    have hsd := hS.1
    have q1 := hD.2.1
    have q2 := hD.2.2.1
    have q3 := hD.2.2.2.1
    have q4 := hD.2.2.2.2
    have u1 := hDt.2.1
    have u2 := hDt.2.2.1
    have u3 := hDt.2.2.2.1
    have u4 := hDt.2.2.2.2
    rw [ok.1, ok.2.2.1] at hd
    refine g_aload_n dX8_addItem_41 rfl (by rfl) ?_
    refine g_getf dX8_addItem_42 fX8_12 (by exact hb) (by omega) (by rfl) ?_
    refine g_iload_n dX8_addItem_45 rfl (by rfl) ?_
    refine g_iload_n dX8_addItem_46 rfl (by rfl) ?_
    refine g_callV_p (c_X2_add hD (by omega) ok.1 hlt x y) dX8_addItem_47 (mX2_add) rfl lX8_65 iX2_add vX2_add (by decide) (by omega) (by first | exact hd | exact htd | exact hsd) rfl rfl rfl rfl (Nat.le_of_ble_eq_true rfl) (fun v9 h9 z9 => ?_)
    obtain ⟨rfl, qd, qoff⟩ := z9
    have hP := hP.disk qoff qd
    have hoff := hoff.trans (qoff.wide (a := _) (b := _) (a' := b) (b' := b + 93) (by omega) (by omega))
    obtain ⟨hb, hD, hS, ⟨σt, hDt⟩, ⟨pm, hH⟩, hT, ⟨go, gl, hG, hgl, hgo⟩, ⟨nx, tk, ts, ex, hsc⟩, hR⟩ := id hP
    obtain ⟨τ, hTt, hT0⟩ := id hT
    unfold s_po at hb
    have hd := hD.1
    have hs := hsc.1
    have hk := hH.1
    have ht := hTt.1
    have hg := hG.1
    have hr := hR.1
    have htd := hDt.1
    have hsd := hS.1
    have q1 := hD.2.1
    have q2 := hD.2.2.1
    have q3 := hD.2.2.2.1
    have q4 := hD.2.2.2.2
    have u1 := hDt.2.1
    have u2 := hDt.2.2.1
    have u3 := hDt.2.2.2.1
    have u4 := hDt.2.2.2.2
    refine g_aload_n dX8_addItem_50 rfl (by rfl) ?_
    refine g_getf dX8_addItem_51 fX8_12 (by exact hb) (by omega) (by rfl) ?_
    refine g_getf dX8_addItem_54 fX8_99 (by first | exact hd | exact htd | exact hsd) (by omega) (by rfl) ?_
    refine g_iconst 1 dX8_addItem_57 (by rfl) ?_
    refine g_isub dX8_addItem_58 ?_
    refine g_ireturn dX8_addItem_59 rfl ?_
    exact ⟨rfl, by rw [if_neg (by omega)]; exact s_some (nI_pred cnt), by rw [if_neg (by omega)]; exact hP, hoff, hin, hin2⟩
  · have hge : cnt = 14 := by
      have h14 := ok.2.1
      have : ¬ cnt < 14 := fun z => c_24 (show nI cnt < nI 14 from nI_lt z (by omega))
      omega
    refine g_bipush (-2) dX8_addItem_27 (by rfl) ?_
    refine g_ireturn dX8_addItem_29 rfl ?_
    exact ⟨rfl, by rw [if_pos hge], by rw [if_pos hge]; exact hP, hoff, hin, hin2⟩

theorem c_X8_removeItem {h : s_H} {n b : Nat} {π : s_Pl} (hP : s_pl h b π) (hn : b + 93 ≤ n) {cnt cp : Nat} (ok : d_ok π.1 cnt cp) (hl : π.2.2.2.2.1 ≤ 10) (x : Int32) : s_Mt TX8_removeItem 1 6 [.ref b, .int x] h n (s_rp n (fun v9 h1 => v9 = some (.int (nI (cnt - 1))) ∧ s_pl h1 b (d_drop π.1 x.toNatClampNeg cnt, (pl_rem π).2) ∧ s_off h h1 b (b + 93) ∧ s_in π x) (fun E h1 => E = "java/lang/IndexOutOfBoundsException" ∧ h1 = h ∧ ¬ s_in π x)) := by
  obtain ⟨hb, hD, hS, ⟨σt, hDt⟩, ⟨pm, hH⟩, hT, ⟨go, gl, hG, hgl, hgo⟩, ⟨nx, tk, ts, ex, hsc⟩, hR⟩ := id hP
  obtain ⟨τ, hTt, hT0⟩ := id hT
  unfold s_po at hb
  have hd := hD.1
  have hs := hsc.1
  have hk := hH.1
  have ht := hTt.1
  have hg := hG.1
  have hr := hR.1
  have htd := hDt.1
  have hsd := hS.1
  have q1 := hD.2.1
  have q2 := hD.2.2.1
  have q3 := hD.2.2.2.1
  have q4 := hD.2.2.2.2
  have u1 := hDt.2.1
  have u2 := hDt.2.2.1
  have u3 := hDt.2.2.2.1
  have u4 := hDt.2.2.2.2
  rw [ok.1, ok.2.2.1] at hd
  have hoff : s_off h h b (b + 93) := s_off.rf
  refine s_Mt_of rfl (by decide) (by exact Nat.le_of_ble_eq_true rfl) ?_
  refine g_aload_n dX8_removeItem_0 rfl (by rfl) ?_
  refine g_iload_n dX8_removeItem_1 rfl (by rfl) ?_
  refine g_callV_x (c_X8_requireItem hP hn x) dX8_removeItem_2 (mX8_requireItem) rfl lX8_102 iX8_requireItem vX8_requireItem (by decide) (by omega) (by exact hb) rfl rfl rfl rfl (Nat.le_of_ble_eq_true rfl) (Nat.le_of_ble_eq_true rfl) (Nat.le_of_ble_eq_true rfl) (fun v9 h9 z9 => ?_) (fun E9 h9 z9 => gx_out rfl ⟨rfl, z9.1, z9.2.1, z9.2.2⟩)
  obtain ⟨rfl, hh, hin⟩ := z9
  have hh := hh.symm
  subst hh
  obtain ⟨i, rfl, hi⟩ := s_in.nat hin ok
  have hi14 := ok.2.1
  refine g_aload_n dX8_removeItem_5 rfl (by rfl) ?_
  refine g_getf dX8_removeItem_6 fX8_29 (by exact hb) (by omega) (by rfl) ?_
  refine g_aload_n dX8_removeItem_9 rfl (by rfl) ?_
  refine g_getf dX8_removeItem_10 fX8_12 (by exact hb) (by omega) (by rfl) ?_
  refine g_callV_p (c_X4_remember hH (by omega) hD (by omega) (by omega) hl) dX8_removeItem_13 (mX4_remember) rfl lX8_92 iX4_remember vX4_remember (by decide) (by omega) (by exact hk) rfl rfl rfl rfl (Nat.le_of_ble_eq_true rfl) (fun v9 h9 z9 => ?_)
  obtain ⟨rfl, qh, qoff⟩ := z9
  have hP : s_pl h9 b (pl_rem π) := hP.hist qoff qh
  have hoff := hoff.trans (qoff.wide (a := _) (b := _) (a' := b) (b' := b + 93) (by omega) (by omega))
  have ok : d_ok (pl_rem π).1 cnt cp := ok
  obtain ⟨hb, hD, hS, ⟨σt, hDt⟩, ⟨pm, hH⟩, hT, ⟨go, gl, hG, hgl, hgo⟩, ⟨nx, tk, ts, ex, hsc⟩, hR⟩ := id hP
  obtain ⟨τ, hTt, hT0⟩ := id hT
  unfold s_po at hb
  have hd := hD.1
  have hs := hsc.1
  have hk := hH.1
  have ht := hTt.1
  have hg := hG.1
  have hr := hR.1
  have htd := hDt.1
  have hsd := hS.1
  have q1 := hD.2.1
  have q2 := hD.2.2.1
  have q3 := hD.2.2.2.1
  have q4 := hD.2.2.2.2
  have u1 := hDt.2.1
  have u2 := hDt.2.2.1
  have u3 := hDt.2.2.2.1
  have u4 := hDt.2.2.2.2
  rw [ok.1, ok.2.2.1] at hd
  refine g_aload_n dX8_removeItem_16 rfl (by rfl) ?_
  refine g_getf dX8_removeItem_17 fX8_12 (by exact hb) (by omega) (by rfl) ?_
  refine g_iload_n dX8_removeItem_20 rfl (by rfl) ?_
  refine g_callV_p (c_X2_drop hD (by omega) ok.1 ok.2.1 hi) dX8_removeItem_21 (mX2_drop) rfl lX8_105 iX2_drop vX2_drop (by decide) (by omega) (by first | exact hd | exact htd | exact hsd) rfl rfl rfl rfl (Nat.le_of_ble_eq_true rfl) (fun v9 h9 z9 => ?_)
  obtain ⟨rfl, qd, qoff⟩ := z9
  have hP := hP.disk qoff qd
  have hoff := hoff.trans (qoff.wide (a := _) (b := _) (a' := b) (b' := b + 93) (by omega) (by omega))
  obtain ⟨hb, hD, hS, ⟨σt, hDt⟩, ⟨pm, hH⟩, hT, ⟨go, gl, hG, hgl, hgo⟩, ⟨nx, tk, ts, ex, hsc⟩, hR⟩ := id hP
  obtain ⟨τ, hTt, hT0⟩ := id hT
  unfold s_po at hb
  have hd := hD.1
  have hs := hsc.1
  have hk := hH.1
  have ht := hTt.1
  have hg := hG.1
  have hr := hR.1
  have htd := hDt.1
  have hsd := hS.1
  have q1 := hD.2.1
  have q2 := hD.2.2.1
  have q3 := hD.2.2.2.1
  have q4 := hD.2.2.2.2
  have u1 := hDt.2.1
  have u2 := hDt.2.2.1
  have u3 := hDt.2.2.2.1
  have u4 := hDt.2.2.2.2
  refine g_aload_n dX8_removeItem_24 rfl (by rfl) ?_
  refine g_getf dX8_removeItem_25 fX8_12 (by exact hb) (by omega) (by rfl) ?_
  refine g_getf dX8_removeItem_28 fX8_99 (by first | exact hd | exact htd | exact hsd) (by omega) (by rfl) ?_
  refine g_ireturn dX8_removeItem_31 rfl ?_
  exact ⟨rfl, rfl, by rw [nI_clamp (by omega)]; exact hP, hoff, hin⟩

theorem c_X8_pinBest {h : s_H} {n b : Nat} {π : s_Pl} (hP : s_pl h b π) (hn : b + 93 ≤ n) {cnt cp : Nat} (ok : d_ok π.1 cnt cp) (hl : π.2.2.2.2.1 ≤ 10) : s_Mt TX8_pinBest 1 6 [.ref b] h n (s_rp n (fun v9 h1 => v9 = some (.int (nI (d_kc (π.1.1 3) (r_st (u_best π.1 cnt cp)) cnt))) ∧ s_pl h1 b (d_kps π.1 (r_st (u_best π.1 cnt cp)) cnt, (pl_rem π).2) ∧ s_off h h1 b (b + 93) ∧ ¬ u_best π.1 cnt cp = r_NP) (fun E h1 => E = "java/lang/IllegalStateException" ∧ s_pl h1 b π ∧ s_off h h1 b (b + 93) ∧ u_best π.1 cnt cp = r_NP)) := by
  obtain ⟨hb, hD, hS, ⟨σt, hDt⟩, ⟨pm, hH⟩, hT, ⟨go, gl, hG, hgl, hgo⟩, ⟨nx, tk, ts, ex, hsc⟩, hR⟩ := id hP
  obtain ⟨τ, hTt, hT0⟩ := id hT
  unfold s_po at hb
  have hd := hD.1
  have hs := hsc.1
  have hk := hH.1
  have ht := hTt.1
  have hg := hG.1
  have hr := hR.1
  have htd := hDt.1
  have hsd := hS.1
  have q1 := hD.2.1
  have q2 := hD.2.2.1
  have q3 := hD.2.2.2.1
  have q4 := hD.2.2.2.2
  have u1 := hDt.2.1
  have u2 := hDt.2.2.1
  have u3 := hDt.2.2.2.1
  have u4 := hDt.2.2.2.2
  rw [ok.1, ok.2.2.1] at hd
  have hoff : s_off h h b (b + 93) := s_off.rf
  refine s_Mt_of rfl (by decide) (by exact Nat.le_of_ble_eq_true rfl) ?_
  refine g_aload_n dX8_pinBest_0 rfl (by rfl) ?_
  refine g_aload_n dX8_pinBest_1 rfl (by rfl) ?_
  refine g_getf dX8_pinBest_2 fX8_12 (by exact hb) (by omega) (by rfl) ?_
  refine g_callV_p (c_X8_bestRank hP hn hD ok (by omega)) dX8_pinBest_5 (mX8_bestRank) rfl lX8_121 iX8_bestRank vX8_bestRank (by decide) (by omega) (by exact hb) rfl rfl rfl rfl (Nat.le_of_ble_eq_true rfl) (fun v9 h9 z9 => ?_)
  obtain ⟨rfl, ⟨τ9, hz9, qtab⟩, qoff⟩ := z9
  have hP := hP.tab qoff (u_t0 qtab hz9)
  have hoff := hoff.trans (qoff.wide (a := _) (b := _) (a' := b) (b' := b + 93) (by omega) (by omega))
  obtain ⟨hb, hD, hS, ⟨σt, hDt⟩, ⟨pm, hH⟩, hT, ⟨go, gl, hG, hgl, hgo⟩, ⟨nx, tk, ts, ex, hsc⟩, hR⟩ := id hP
  obtain ⟨τ, hTt, hT0⟩ := id hT
  unfold s_po at hb
  have hd := hD.1
  have hs := hsc.1
  have hk := hH.1
  have ht := hTt.1
  have hg := hG.1
  have hr := hR.1
  have htd := hDt.1
  have hsd := hS.1
  have q1 := hD.2.1
  have q2 := hD.2.2.1
  have q3 := hD.2.2.2.1
  have q4 := hD.2.2.2.2
  have u1 := hDt.2.1
  have u2 := hDt.2.2.1
  have u3 := hDt.2.2.2.1
  have u4 := hDt.2.2.2.2
  rw [ok.1, ok.2.2.1] at hd
  refine g_lstore_n dX8_pinBest_8 rfl (by decide) ?_
  refine g_lload_n dX8_pinBest_9 rfl (by rfl) ?_
  refine g_ldc2 dX8_pinBest_10 kX8_125 ?_
  refine g_lcmp dX8_pinBest_13 ?_
  refine g_if_ne (tgt := 27) dX8_pinBest_14 (by decide) (fun c_14 => ?_) (fun c_14 => ?_)
  · refine g_aload_n dX8_pinBest_27 rfl (by rfl) ?_
    refine g_getf dX8_pinBest_28 fX8_29 (by exact hb) (by omega) (by rfl) ?_
    refine g_aload_n dX8_pinBest_31 rfl (by rfl) ?_
    refine g_getf dX8_pinBest_32 fX8_12 (by exact hb) (by omega) (by rfl) ?_
    refine g_callV_p (c_X4_remember hH (by omega) hD (by omega) (by omega) hl) dX8_pinBest_35 (mX4_remember) rfl lX8_92 iX4_remember vX4_remember (by decide) (by omega) (by exact hk) rfl rfl rfl rfl (Nat.le_of_ble_eq_true rfl) (fun v9 h9 z9 => ?_)
    obtain ⟨rfl, qh, qoff⟩ := z9
    have hP : s_pl h9 b (pl_rem π) := hP.hist qoff qh
    have hoff := hoff.trans (qoff.wide (a := _) (b := _) (a' := b) (b' := b + 93) (by omega) (by omega))
    have ok : d_ok (pl_rem π).1 cnt cp := ok
    obtain ⟨hb, hD, hS, ⟨σt, hDt⟩, ⟨pm, hH⟩, hT, ⟨go, gl, hG, hgl, hgo⟩, ⟨nx, tk, ts, ex, hsc⟩, hR⟩ := id hP
    obtain ⟨τ, hTt, hT0⟩ := id hT
    unfold s_po at hb
    have hd := hD.1
    have hs := hsc.1
    have hk := hH.1
    have ht := hTt.1
    have hg := hG.1
    have hr := hR.1
    have htd := hDt.1
    have hsd := hS.1
    have q1 := hD.2.1
    have q2 := hD.2.2.1
    have q3 := hD.2.2.2.1
    have q4 := hD.2.2.2.2
    have u1 := hDt.2.1
    have u2 := hDt.2.2.1
    have u3 := hDt.2.2.2.1
    have u4 := hDt.2.2.2.2
    rw [ok.1, ok.2.2.1] at hd
    refine g_aload_n dX8_pinBest_38 rfl (by rfl) ?_
    refine g_getf dX8_pinBest_39 fX8_12 (by exact hb) (by omega) (by rfl) ?_
    refine g_lload_n dX8_pinBest_42 rfl (by rfl) ?_
    refine g_callS_e (c_X8_rankSet _) dX8_pinBest_43 (mX8_rankSet) rfl lX8_134 sX8_rankSet (by decide) rfl rfl (Nat.le_of_ble_eq_true rfl) ?_
    refine g_callV_p (c_X2_keep hD (by omega) ok.1 ok.2.1 _) dX8_pinBest_46 (mX2_keep) rfl lX8_138 iX2_keep vX2_keep (by decide) (by omega) (by first | exact hd | exact htd | exact hsd) rfl rfl rfl rfl (Nat.le_of_ble_eq_true rfl) (fun v9 h9 z9 => ?_)
    obtain ⟨rfl, qd, qoff⟩ := z9
    have hP := hP.disk qoff qd
    have hoff := hoff.trans (qoff.wide (a := _) (b := _) (a' := b) (b' := b + 93) (by omega) (by omega))
    refine g_ireturn dX8_pinBest_49 rfl ?_
    exact ⟨rfl, rfl, hP, hoff, (show ¬ u_best π.1 cnt cp = r_NP from fun z => c_14 ((lg_cmp_eq _ _).mpr z))⟩
  · refine g_throw (text := "there is no plan") dX8_pinBest_17 dX8_pinBest_20 dX8_pinBest_21 dX8_pinBest_23 dX8_pinBest_26 rfl (by decide) twIs (Nat.le_of_ble_eq_true rfl) (Nat.le_of_ble_eq_true rfl) (Nat.le_of_ble_eq_true rfl) (gx_out rfl ?_)
    exact ⟨rfl, rfl, hP, hoff, (show u_best π.1 cnt cp = r_NP from (lg_cmp_eq _ _).mp c_14)⟩
