/-! THE COMPONENT: its checks and reports -/
noncomputable def v_df (σ : s_D) (cnt cp : Nat) (pl : Int32) : Prop := ¬ d_tot (d_wt σ) pl cnt = u_cell σ cnt (u_nf σ cnt) (d_room σ cnt).toNatClampNeg + d_tot (d_wt σ) (d_set σ 1 cnt) cnt
def v_fb (σ : s_D) (cnt cp : Nat) (pl : Int32) : Prop := nI cp < d_tot (σ.1 0) pl cnt ∨ ¬ pl &&& d_set σ 2 cnt = 0 ∨ ¬ pl &&& d_set σ 1 cnt = d_set σ 1 cnt
def v_ob (σ : s_D) (cnt : Nat) (pl : Int32) : Prop := d_tot (d_wt σ) pl cnt < d_tot (d_wt σ) (v_gp σ cnt) cnt ∨ v_bd σ cnt < d_tot (d_wt σ) pl cnt
noncomputable def v_b (p : Prop) : Int32 := @ite Int32 p (Classical.propDecidable p) 1 0
theorem v_b1 {p : Prop} (h : p) : (1 : Int32) = v_b p := by unfold v_b; rw [if_pos h]
theorem v_b0 {p : Prop} (h : ¬ p) : (0 : Int32) = v_b p := by unfold v_b; rw [if_neg h]
theorem v_b_ne {p : Prop} (h : ¬ v_b p = 0) : p := Classical.byContradiction fun z => h (v_b0 z).symm
theorem v_b_eq {p : Prop} (h : v_b p = 0) : ¬ p := fun z => by rw [← v_b1 z] at h; exact absurd h (by decide)

theorem c_X8_differsFromTable {h : s_H} {n b : Nat} {π : s_Pl} (hP : s_pl h b π) (hn : b + 93 ≤ n) {cnt cp : Nat} (ok : d_ok π.1 cnt cp) (pl : Int32) (hroom : ¬ nI cp - u_ps π.1 cnt < 0) : s_Mt TX8_differsFromTable 0 0 [.ref b, .int pl] h n (s_rp n (fun v9 h1 => v9 = some (.int (v_b (v_df π.1 cnt cp pl))) ∧ s_pl h1 b π ∧ s_off h h1 b (b + 93)) s_no) := by
  obtain ⟨hb, hD, hS, ⟨σt, hDt⟩, ⟨pm, hH⟩, hT, ⟨go, gl, hG, hgl, hgo⟩, ⟨nx, tk, ts, ex, hsc⟩, hR⟩ := id hP
  obtain ⟨τ, hTt, hT0⟩ := id hT
  unfold s_po at hb
  have hd := hD.1
  have hs := hsc.1
  have hk := hH.1
  have ht := hTt.1
  have hg := hG.1
  have hr := hR.1
  have htd := hDt.1
  have hsd := hS.1
  have q1 := hD.2.1
  have q2 := hD.2.2.1
  have q3 := hD.2.2.2.1
  have q4 := hD.2.2.2.2
  have u1 := hDt.2.1
  have u2 := hDt.2.2.1
  have u3 := hDt.2.2.2.1
  have u4 := hDt.2.2.2.2
  rw [ok.1, ok.2.2.1] at hd
  have hoff : s_off h h b (b + 93) := s_off.rf
  refine s_Mt_of rfl (by decide) (by exact Nat.le_of_ble_eq_true rfl) ?_
  refine g_aload_n dX8_differsFromTable_0 rfl (by rfl) ?_
  refine g_getf dX8_differsFromTable_1 fX8_36 (by exact hb) (by omega) (by rfl) ?_
  refine g_aload_n dX8_differsFromTable_4 rfl (by rfl) ?_
  refine g_getf dX8_differsFromTable_5 fX8_12 (by exact hb) (by omega) (by rfl) ?_
  refine g_bipush 100 dX8_differsFromTable_8 (by rfl) ?_
  refine g_callV_p (c_X7_build (cnt := cnt) (lc := 100) hTt hD (by omega) (by omega) (by omega) ok.1 ok.2.1 ok.sz (by omega)) dX8_differsFromTable_10 (mX7_build) rfl lX8_205 iX7_build vX7_build (by decide) (by omega) (by exact ht) rfl rfl rfl rfl (Nat.le_of_ble_eq_true rfl) (fun v9 h9 z9 => ?_)
  obtain ⟨rfl, qtab, qoff⟩ := z9
  have hz9 := hT0
  have hP := hP.tab qoff (u_t0 qtab hT0)
  have hoff := hoff.trans (qoff.wide (a := _) (b := _) (a' := b) (b' := b + 93) (by omega) (by omega))
  obtain ⟨hb, hD, hS, ⟨σt, hDt⟩, ⟨pm, hH⟩, hT, ⟨go, gl, hG, hgl, hgo⟩, ⟨nx, tk, ts, ex, hsc⟩, hR⟩ := id hP
  obtain ⟨τ, hTt, hT0⟩ := id hT
  unfold s_po at hb
  have hd := hD.1
  have hs := hsc.1
  have hk := hH.1
  have ht := hTt.1
  have hg := hG.1
  have hr := hR.1
  have htd := hDt.1
  have hsd := hS.1
  have q1 := hD.2.1
  have q2 := hD.2.2.1
  have q3 := hD.2.2.2.1
  have q4 := hD.2.2.2.2
  have u1 := hDt.2.1
  have u2 := hDt.2.2.1
  have u3 := hDt.2.2.2.1
  have u4 := hDt.2.2.2.2
  rw [ok.1, ok.2.2.1] at hd
  refine g_aload_n dX8_differsFromTable_13 rfl (by rfl) ?_
  refine g_getf dX8_differsFromTable_14 fX8_36 (by exact hb) (by omega) (by rfl) ?_
  refine g_aload_n dX8_differsFromTable_17 rfl (by rfl) ?_
  refine g_getf dX8_differsFromTable_18 fX8_36 (by exact hb) (by omega) (by rfl) ?_
  refine g_getf dX8_differsFromTable_21 fX8_284 (by exact qtab.1) (by omega) (by rfl) ?_
  refine g_aload_n dX8_differsFromTable_24 rfl (by rfl) ?_
  refine g_getf dX8_differsFromTable_25 fX8_12 (by exact hb) (by omega) (by rfl) ?_
  refine g_callV_e (c_X2_room hD (by omega) ok.1 ok.2.1) dX8_differsFromTable_28 (mX2_room) rfl lX8_189 iX2_room vX2_room (by decide) (by omega) (by first | exact hd | exact htd | exact hsd) rfl rfl rfl rfl (Nat.le_of_ble_eq_true rfl) ?_
  obtain ⟨rm, hrm, hrmc⟩ := u_rm ok ok.2.2.2.1 hroom
  have hcp9 := ok.2.2.2.1
  rw [← d_room_eq ok] at hrm
  rw [hrm]
  have hrows := u_row_lt ok (u_z hz9 (Nat.le_refl 100))
  refine g_callV_e (c_X7_cellWeight (r := (t_build π.1 100 _ cnt).2.2.2.1) (c := rm) qtab (by omega) hrows (by omega)) dX8_differsFromTable_31 (mX7_cellWeight) rfl lX8_223 iX7_cellWeight vX7_cellWeight (by decide) (by omega) (by exact qtab.1) rfl rfl rfl rfl (Nat.le_of_ble_eq_true rfl) ?_
  rw [show r_wt ((t_build π.1 100 _ cnt).1 (t_build π.1 100 _ cnt).2.2.2.1 rm) = u_cell π.1 cnt (u_nf π.1 cnt) rm by rw [(u_build (σ := π.1) (u_z hz9 (Nat.le_refl 100)) cnt).1]; exact u_cell_of (u_z hz9 (Nat.le_refl _)) (Nat.le_refl _) (by omega)]
  refine g_aload_n dX8_differsFromTable_34 rfl (by rfl) ?_
  refine g_getf dX8_differsFromTable_35 fX8_12 (by exact hb) (by omega) (by rfl) ?_
  refine g_aload_n dX8_differsFromTable_38 rfl (by rfl) ?_
  refine g_getf dX8_differsFromTable_39 fX8_12 (by exact hb) (by omega) (by rfl) ?_
  refine g_iconst 1 dX8_differsFromTable_42 (by rfl) ?_
  refine g_callV_e (c_X2_setOf hD (by omega) ok.1 ok.2.1 1) dX8_differsFromTable_43 (mX2_setOf) rfl lX8_176 iX2_setOf vX2_setOf (by decide) (by omega) (by first | exact hd | exact htd | exact hsd) rfl rfl rfl rfl (Nat.le_of_ble_eq_true rfl) ?_
  refine g_callV_e (c_X2_totalWeight hD (by omega) ok.1 ok.2.1 _) dX8_differsFromTable_46 (mX2_totalWeight) rfl lX8_229 iX2_totalWeight vX2_totalWeight (by decide) (by omega) (by first | exact hd | exact htd | exact hsd) rfl rfl rfl rfl (Nat.le_of_ble_eq_true rfl) ?_
  refine g_iadd dX8_differsFromTable_49 ?_
  refine g_istore_n dX8_differsFromTable_50 rfl (by decide) ?_
  refine g_aload_n dX8_differsFromTable_51 rfl (by rfl) ?_
  refine g_getf dX8_differsFromTable_52 fX8_12 (by exact hb) (by omega) (by rfl) ?_
  refine g_iload_n dX8_differsFromTable_55 rfl (by rfl) ?_
  refine g_callV_e (c_X2_totalWeight hD (by omega) ok.1 ok.2.1 _) dX8_differsFromTable_56 (mX2_totalWeight) rfl lX8_229 iX2_totalWeight vX2_totalWeight (by decide) (by omega) (by first | exact hd | exact htd | exact hsd) rfl rfl rfl rfl (Nat.le_of_ble_eq_true rfl) ?_
  refine g_iload_n dX8_differsFromTable_59 rfl (by rfl) ?_
  refine g_icmp_eq (tgt := 67) dX8_differsFromTable_60 (by decide) (fun c_60 => ?_) (fun c_60 => ?_)
  · have hv : ¬ (v_df π.1 cnt cp pl) := fun z => z (by rw [hrm, nI_clamp (by omega)]; exact c_60)
    refine g_iconst 0 dX8_differsFromTable_67 (by rfl) ?_
    refine g_zreturn dX8_differsFromTable_68 rfl (by decide) ?_
    exact ⟨rfl, s_some (by first | exact v_b1 hv | exact v_b0 hv), hP, hoff⟩
  · have hv : (v_df π.1 cnt cp pl) := fun z => c_60 (by rw [hrm, nI_clamp (by omega)] at z; exact z)
    refine g_iconst 1 dX8_differsFromTable_63 (by rfl) ?_
    refine g_goto (tgt := 68) dX8_differsFromTable_64 (by decide) ?_
    refine g_zreturn dX8_differsFromTable_68 rfl (by decide) ?_
    exact ⟨rfl, s_some (by first | exact v_b1 hv | exact v_b0 hv), hP, hoff⟩

theorem c_X8_isForbidden {h : s_H} {n b : Nat} {π : s_Pl} (hP : s_pl h b π) (hn : b + 93 ≤ n) {cnt cp : Nat} (ok : d_ok π.1 cnt cp) (pl : Int32) : s_Mt TX8_isForbidden 0 0 [.ref b, .int pl] h n (s_re (some (.int (v_b (v_fb π.1 cnt cp pl)))) h n) := by
  obtain ⟨hb, hD, hS, ⟨σt, hDt⟩, ⟨pm, hH⟩, hT, ⟨go, gl, hG, hgl, hgo⟩, ⟨nx, tk, ts, ex, hsc⟩, hR⟩ := id hP
  obtain ⟨τ, hTt, hT0⟩ := id hT
  unfold s_po at hb
  have hd := hD.1
  have hs := hsc.1
  have hk := hH.1
  have ht := hTt.1
  have hg := hG.1
  have hr := hR.1
  have htd := hDt.1
  have hsd := hS.1
  have q1 := hD.2.1
  have q2 := hD.2.2.1
  have q3 := hD.2.2.2.1
  have q4 := hD.2.2.2.2
  have u1 := hDt.2.1
  have u2 := hDt.2.2.1
  have u3 := hDt.2.2.2.1
  have u4 := hDt.2.2.2.2
  rw [ok.1, ok.2.2.1] at hd
  refine s_Mt_of rfl (by decide) (by exact Nat.le_of_ble_eq_true rfl) ?_
  refine g_aload_n dX8_isForbidden_0 rfl (by rfl) ?_
  refine g_getf dX8_isForbidden_1 fX8_12 (by exact hb) (by omega) (by rfl) ?_
  refine g_iconst 1 dX8_isForbidden_4 (by rfl) ?_
  refine g_callV_e (c_X2_setOf hD (by omega) ok.1 ok.2.1 1) dX8_isForbidden_5 (mX2_setOf) rfl lX8_176 iX2_setOf vX2_setOf (by decide) (by omega) (by first | exact hd | exact htd | exact hsd) rfl rfl rfl rfl (Nat.le_of_ble_eq_true rfl) ?_
  refine g_istore_n dX8_isForbidden_8 rfl (by decide) ?_
  refine g_aload_n dX8_isForbidden_9 rfl (by rfl) ?_
  refine g_getf dX8_isForbidden_10 fX8_12 (by exact hb) (by omega) (by rfl) ?_
  refine g_iload_n dX8_isForbidden_13 rfl (by rfl) ?_
  refine g_callV_e (c_X2_totalSize hD (by omega) ok.1 ok.2.1 _) dX8_isForbidden_14 (mX2_totalSize) rfl lX8_179 iX2_totalSize vX2_totalSize (by decide) (by omega) (by first | exact hd | exact htd | exact hsd) rfl rfl rfl rfl (Nat.le_of_ble_eq_true rfl) ?_
  refine g_aload_n dX8_isForbidden_17 rfl (by rfl) ?_
  refine g_getf dX8_isForbidden_18 fX8_12 (by exact hb) (by omega) (by rfl) ?_
  refine g_getf dX8_isForbidden_21 fX8_118 (by first | exact hd | exact htd | exact hsd) (by omega) (by rfl) ?_
  refine g_icmp_gt (tgt := 47) dX8_isForbidden_24 (by decide) (fun c_24 => ?_) (fun c_24 => ?_)
  · have hv : (v_fb π.1 cnt cp pl) := Or.inl c_24
    refine g_iconst 1 dX8_isForbidden_47 (by rfl) ?_
    refine g_goto (tgt := 52) dX8_isForbidden_48 (by decide) ?_
    refine g_zreturn dX8_isForbidden_52 rfl (by decide) ?_
    exact ⟨by first | rw [← v_b1 hv] | rw [← v_b0 hv], rfl, rfl⟩
  · refine g_iload_n dX8_isForbidden_27 rfl (by rfl) ?_
    refine g_aload_n dX8_isForbidden_28 rfl (by rfl) ?_
    refine g_getf dX8_isForbidden_29 fX8_12 (by exact hb) (by omega) (by rfl) ?_
    refine g_iconst 2 dX8_isForbidden_32 (by rfl) ?_
    refine g_callV_e (c_X2_setOf hD (by omega) ok.1 ok.2.1 2) dX8_isForbidden_33 (mX2_setOf) rfl lX8_176 iX2_setOf vX2_setOf (by decide) (by omega) (by first | exact hd | exact htd | exact hsd) rfl rfl rfl rfl (Nat.le_of_ble_eq_true rfl) ?_
    refine g_iand dX8_isForbidden_36 ?_
    refine g_if_ne (tgt := 47) dX8_isForbidden_37 (by decide) (fun c_37 => ?_) (fun c_37 => ?_)
    · have hv : (v_fb π.1 cnt cp pl) := Or.inr (Or.inl c_37)
      refine g_iconst 1 dX8_isForbidden_47 (by rfl) ?_
      refine g_goto (tgt := 52) dX8_isForbidden_48 (by decide) ?_
      refine g_zreturn dX8_isForbidden_52 rfl (by decide) ?_
      exact ⟨by first | rw [← v_b1 hv] | rw [← v_b0 hv], rfl, rfl⟩
    · refine g_iload_n dX8_isForbidden_40 rfl (by rfl) ?_
      refine g_iload_n dX8_isForbidden_41 rfl (by rfl) ?_
      refine g_iand dX8_isForbidden_42 ?_
      refine g_iload_n dX8_isForbidden_43 rfl (by rfl) ?_
      refine g_icmp_eq (tgt := 51) dX8_isForbidden_44 (by decide) (fun c_44 => ?_) (fun c_44 => ?_)
      · have hv : ¬ (v_fb π.1 cnt cp pl) := fun z => z.elim c_24 (fun z => z.elim (fun z => z c_37) (fun z => z c_44))
        refine g_iconst 0 dX8_isForbidden_51 (by rfl) ?_
        refine g_zreturn dX8_isForbidden_52 rfl (by decide) ?_
        exact ⟨by first | rw [← v_b1 hv] | rw [← v_b0 hv], rfl, rfl⟩
      · have hv : (v_fb π.1 cnt cp pl) := Or.inr (Or.inr c_44)
        refine g_iconst 1 dX8_isForbidden_47 (by rfl) ?_
        refine g_goto (tgt := 52) dX8_isForbidden_48 (by decide) ?_
        refine g_zreturn dX8_isForbidden_52 rfl (by decide) ?_
        exact ⟨by first | rw [← v_b1 hv] | rw [← v_b0 hv], rfl, rfl⟩

theorem c_X8_isOutOfBounds {h : s_H} {n b : Nat} {π : s_Pl} (hP : s_pl h b π) (hn : b + 93 ≤ n) {cnt cp : Nat} (ok : d_ok π.1 cnt cp) (pl : Int32) : s_Mt TX8_isOutOfBounds 0 0 [.ref b, .int pl] h n (s_rp n (fun v9 h1 => v9 = some (.int (v_b (v_ob π.1 cnt pl))) ∧ s_pl h1 b π ∧ s_off h h1 b (b + 93)) s_no) := by
  obtain ⟨hb, hD, hS, ⟨σt, hDt⟩, ⟨pm, hH⟩, hT, ⟨go, gl, hG, hgl, hgo⟩, ⟨nx, tk, ts, ex, hsc⟩, hR⟩ := id hP
  obtain ⟨τ, hTt, hT0⟩ := id hT
  unfold s_po at hb
  have hd := hD.1
  have hs := hsc.1
  have hk := hH.1
  have ht := hTt.1
  have hg := hG.1
  have hr := hR.1
  have htd := hDt.1
  have hsd := hS.1
  have q1 := hD.2.1
  have q2 := hD.2.2.1
  have q3 := hD.2.2.2.1
  have q4 := hD.2.2.2.2
  have u1 := hDt.2.1
  have u2 := hDt.2.2.1
  have u3 := hDt.2.2.2.1
  have u4 := hDt.2.2.2.2
  rw [ok.1, ok.2.2.1] at hd
  have hoff : s_off h h b (b + 93) := s_off.rf
  refine s_Mt_of rfl (by decide) (by exact Nat.le_of_ble_eq_true rfl) ?_
  refine g_aload_n dX8_isOutOfBounds_0 rfl (by rfl) ?_
  refine g_getf dX8_isOutOfBounds_1 fX8_43 (by exact hb) (by omega) (by rfl) ?_
  refine g_aload_n dX8_isOutOfBounds_4 rfl (by rfl) ?_
  refine g_getf dX8_isOutOfBounds_5 fX8_12 (by exact hb) (by omega) (by rfl) ?_
  refine g_callV_p (c_X3_sort hG hD (by omega) (by omega) (by omega) ok.1 ok.2.1) dX8_isOutOfBounds_8 (mX3_sort) rfl lX8_182 iX3_sort vX3_sort (by decide) (by omega) (by exact hg) rfl rfl rfl rfl (Nat.le_of_ble_eq_true rfl) (fun v9 h9 z9 => ?_)
  obtain ⟨rfl, qg, qoff⟩ := z9
  have hl9 := g_srt_len (σ := π.1) cnt
  have hP := hP.grd qoff qg (by have := ok.2.1; omega) (fun q hq => by have := g_srt_lt cnt q hq; have := ok.2.1; omega)
  have hoff := hoff.trans (qoff.wide (a := _) (b := _) (a' := b) (b' := b + 93) (by omega) (by omega))
  obtain ⟨hb, hD, hS, ⟨σt, hDt⟩, ⟨pm, hH⟩, hT, ⟨go, gl, hG, hgl, hgo⟩, ⟨nx, tk, ts, ex, hsc⟩, hR⟩ := id hP
  obtain ⟨τ, hTt, hT0⟩ := id hT
  unfold s_po at hb
  have hd := hD.1
  have hs := hsc.1
  have hk := hH.1
  have ht := hTt.1
  have hg := hG.1
  have hr := hR.1
  have htd := hDt.1
  have hsd := hS.1
  have q1 := hD.2.1
  have q2 := hD.2.2.1
  have q3 := hD.2.2.2.1
  have q4 := hD.2.2.2.2
  have u1 := hDt.2.1
  have u2 := hDt.2.2.1
  have u3 := hDt.2.2.2.1
  have u4 := hDt.2.2.2.2
  rw [ok.1, ok.2.2.1] at hd
  refine g_aload_n dX8_isOutOfBounds_11 rfl (by rfl) ?_
  refine g_getf dX8_isOutOfBounds_12 fX8_12 (by exact hb) (by omega) (by rfl) ?_
  refine g_iload_n dX8_isOutOfBounds_15 rfl (by rfl) ?_
  refine g_callV_e (c_X2_totalWeight hD (by omega) ok.1 ok.2.1 _) dX8_isOutOfBounds_16 (mX2_totalWeight) rfl lX8_229 iX2_totalWeight vX2_totalWeight (by decide) (by omega) (by first | exact hd | exact htd | exact hsd) rfl rfl rfl rfl (Nat.le_of_ble_eq_true rfl) ?_
  refine g_istore_n dX8_isOutOfBounds_19 rfl (by decide) ?_
  refine g_aload_n dX8_isOutOfBounds_20 rfl (by rfl) ?_
  refine g_getf dX8_isOutOfBounds_21 fX8_12 (by exact hb) (by omega) (by rfl) ?_
  refine g_aload_n dX8_isOutOfBounds_24 rfl (by rfl) ?_
  refine g_getf dX8_isOutOfBounds_25 fX8_43 (by exact hb) (by omega) (by rfl) ?_
  refine g_aload_n dX8_isOutOfBounds_28 rfl (by rfl) ?_
  refine g_getf dX8_isOutOfBounds_29 fX8_12 (by exact hb) (by omega) (by rfl) ?_
  refine g_callV_e (c_X3_takeFitting qg hD (by omega) (by omega) ok.1 ok.2.1 (by have := ok.2.1; omega) (fun q hq => by have := g_srt_lt cnt q hq; have := ok.2.1; omega)) dX8_isOutOfBounds_32 (mX3_takeFitting) rfl lX8_226 iX3_takeFitting vX3_takeFitting (by decide) (by omega) (by exact qg.1) rfl rfl rfl rfl (Nat.le_of_ble_eq_true rfl) ?_
  rw [show (g_tf π.1 (g_srt π.1 cnt).1 (d_set π.1 1 cnt) (d_room π.1 cnt) (g_srt π.1 cnt).2).1 = v_gp π.1 cnt from rfl]
  refine g_callV_e (c_X2_totalWeight hD (by omega) ok.1 ok.2.1 _) dX8_isOutOfBounds_35 (mX2_totalWeight) rfl lX8_229 iX2_totalWeight vX2_totalWeight (by decide) (by omega) (by first | exact hd | exact htd | exact hsd) rfl rfl rfl rfl (Nat.le_of_ble_eq_true rfl) ?_
  refine g_iload_n dX8_isOutOfBounds_38 rfl (by rfl) ?_
  refine g_icmp_gt (tgt := 57) dX8_isOutOfBounds_39 (by decide) (fun c_39 => ?_) (fun c_39 => ?_)
  · have hv : (v_ob π.1 cnt pl) := Or.inl c_39
    refine g_iconst 1 dX8_isOutOfBounds_57 (by rfl) ?_
    refine g_goto (tgt := 62) dX8_isOutOfBounds_58 (by decide) ?_
    refine g_zreturn dX8_isOutOfBounds_62 rfl (by decide) ?_
    exact ⟨rfl, s_some (by first | exact v_b1 hv | exact v_b0 hv), hP, hoff⟩
  · refine g_iload_n dX8_isOutOfBounds_42 rfl (by rfl) ?_
    refine g_aload_n dX8_isOutOfBounds_43 rfl (by rfl) ?_
    refine g_getf dX8_isOutOfBounds_44 fX8_43 (by exact hb) (by omega) (by rfl) ?_
    refine g_aload_n dX8_isOutOfBounds_47 rfl (by rfl) ?_
    refine g_getf dX8_isOutOfBounds_48 fX8_12 (by exact hb) (by omega) (by rfl) ?_
    refine g_callV_e (c_X3_bound qg hD (by omega) (by omega) ok.1 ok.2.1 (by have := ok.2.1; omega) (fun q hq => by have := g_srt_lt cnt q hq; have := ok.2.1; omega)) dX8_isOutOfBounds_51 (mX3_bound) rfl lX8_232 iX3_bound vX3_bound (by decide) (by omega) (by exact qg.1) rfl rfl rfl rfl (Nat.le_of_ble_eq_true rfl) ?_
    rw [show g_bd π.1 (g_srt π.1 cnt).1 (g_srt π.1 cnt).2 0 (d_tot (d_wt π.1) (d_set π.1 1 cnt) cnt) (d_room π.1 cnt) = v_bd π.1 cnt from rfl]
    refine g_icmp_le (tgt := 61) dX8_isOutOfBounds_54 (by decide) (fun c_54 => ?_) (fun c_54 => ?_)
    · have hv : ¬ (v_ob π.1 cnt pl) := fun z => z.elim c_39 (fun z => Int32.not_le.mpr z c_54)
      refine g_iconst 0 dX8_isOutOfBounds_61 (by rfl) ?_
      refine g_zreturn dX8_isOutOfBounds_62 rfl (by decide) ?_
      exact ⟨rfl, s_some (by first | exact v_b1 hv | exact v_b0 hv), hP, hoff⟩
    · have hv : (v_ob π.1 cnt pl) := Or.inr (Int32.not_le.mp c_54)
      refine g_iconst 1 dX8_isOutOfBounds_57 (by rfl) ?_
      refine g_goto (tgt := 62) dX8_isOutOfBounds_58 (by decide) ?_
      refine g_zreturn dX8_isOutOfBounds_62 rfl (by decide) ?_
      exact ⟨rfl, s_some (by first | exact v_b1 hv | exact v_b0 hv), hP, hoff⟩

theorem v_v1 {p : Prop} (h : ¬ v_b p = 0) : v_b p = 1 := (v_b1 (v_b_ne h)).symm
theorem v_v0 {p : Prop} (h : v_b p = 0) : v_b p = 0 := h

theorem c_X8_violations {h : s_H} {n b : Nat} {π : s_Pl} (hP : s_pl h b π) (hn : b + 93 ≤ n) {cnt cp : Nat} (ok : d_ok π.1 cnt cp) : s_Mt TX8_violations 0 0 [.ref b] h n (s_rp n (fun v9 h1 => v9 = some (.int (if u_best π.1 cnt cp = r_NP then 0 else (((v_b (v_df π.1 cnt cp (r_st (u_best π.1 cnt cp)))) + (v_b (v_fb π.1 cnt cp (r_st (u_best π.1 cnt cp))))) + (v_b (v_ob π.1 cnt (r_st (u_best π.1 cnt cp))))))) ∧ s_pl h1 b π ∧ s_off h h1 b (b + 93)) s_no) := by
  obtain ⟨hb, hD, hS, ⟨σt, hDt⟩, ⟨pm, hH⟩, hT, ⟨go, gl, hG, hgl, hgo⟩, ⟨nx, tk, ts, ex, hsc⟩, hR⟩ := id hP
  obtain ⟨τ, hTt, hT0⟩ := id hT
  unfold s_po at hb
  have hd := hD.1
  have hs := hsc.1
  have hk := hH.1
  have ht := hTt.1
  have hg := hG.1
  have hr := hR.1
  have htd := hDt.1
  have hsd := hS.1
  have q1 := hD.2.1
  have q2 := hD.2.2.1
  have q3 := hD.2.2.2.1
  have q4 := hD.2.2.2.2
  have u1 := hDt.2.1
  have u2 := hDt.2.2.1
  have u3 := hDt.2.2.2.1
  have u4 := hDt.2.2.2.2
  rw [ok.1, ok.2.2.1] at hd
  have hoff : s_off h h b (b + 93) := s_off.rf
  refine s_Mt_of rfl (by decide) (by exact Nat.le_of_ble_eq_true rfl) ?_
  refine g_aload_n dX8_violations_0 rfl (by rfl) ?_
  refine g_aload_n dX8_violations_1 rfl (by rfl) ?_
  refine g_getf dX8_violations_2 fX8_12 (by exact hb) (by omega) (by rfl) ?_
  refine g_callV_p (c_X8_bestRank hP hn hD ok (by omega)) dX8_violations_5 (mX8_bestRank) rfl lX8_121 iX8_bestRank vX8_bestRank (by decide) (by omega) (by exact hb) rfl rfl rfl rfl (Nat.le_of_ble_eq_true rfl) (fun v9 h9 z9 => ?_)
  obtain ⟨rfl, ⟨τ9, hz9, qtab⟩, qoff⟩ := z9
  have hP := hP.tab qoff (u_t0 qtab hz9)
  have hoff := hoff.trans (qoff.wide (a := _) (b := _) (a' := b) (b' := b + 93) (by omega) (by omega))
  obtain ⟨hb, hD, hS, ⟨σt, hDt⟩, ⟨pm, hH⟩, hT, ⟨go, gl, hG, hgl, hgo⟩, ⟨nx, tk, ts, ex, hsc⟩, hR⟩ := id hP
  obtain ⟨τ, hTt, hT0⟩ := id hT
  unfold s_po at hb
  have hd := hD.1
  have hs := hsc.1
  have hk := hH.1
  have ht := hTt.1
  have hg := hG.1
  have hr := hR.1
  have htd := hDt.1
  have hsd := hS.1
  have q1 := hD.2.1
  have q2 := hD.2.2.1
  have q3 := hD.2.2.2.1
  have q4 := hD.2.2.2.2
  have u1 := hDt.2.1
  have u2 := hDt.2.2.1
  have u3 := hDt.2.2.2.1
  have u4 := hDt.2.2.2.2
  rw [ok.1, ok.2.2.1] at hd
  refine g_lstore_n dX8_violations_8 rfl (by decide) ?_
  refine g_lload_n dX8_violations_9 rfl (by rfl) ?_
  refine g_ldc2 dX8_violations_10 kX8_125 ?_
  refine g_lcmp dX8_violations_13 ?_
  refine g_if_ne (tgt := 19) dX8_violations_14 (by decide) (fun c_14 => ?_) (fun c_14 => ?_)
  · have hnn := (show ¬ u_best π.1 cnt cp = r_NP from fun z => c_14 ((lg_cmp_eq _ _).mpr z))
    have hroom : ¬ nI cp - u_ps π.1 cnt < 0 := fun z => hnn (by unfold u_best; rw [if_pos z])
    refine g_lload_n dX8_violations_19 rfl (by rfl) ?_
    refine g_callS_e (c_X8_rankSet _) dX8_violations_20 (mX8_rankSet) rfl lX8_134 sX8_rankSet (by decide) rfl rfl (Nat.le_of_ble_eq_true rfl) ?_
    refine g_istore_n dX8_violations_23 rfl (by decide) ?_
    refine g_iconst 0 dX8_violations_24 (by rfl) ?_
    refine g_istore dX8_violations_25 (by decide) ?_
    refine g_aload_n dX8_violations_27 rfl (by rfl) ?_
    refine g_iload_n dX8_violations_28 rfl (by rfl) ?_
    refine g_callV_p (c_X8_differsFromTable hP hn ok _ hroom) dX8_violations_29 (mX8_differsFromTable) rfl lX8_252 iX8_differsFromTable vX8_differsFromTable (by decide) (by omega) (by exact hb) rfl rfl rfl rfl (Nat.le_of_ble_eq_true rfl) (fun v9 h9 z9 => ?_)
    obtain ⟨rfl, hP, qoff⟩ := z9
    have hoff := hoff.trans (qoff.wide (a := _) (b := _) (a' := b) (b' := b + 93) (by omega) (by omega))
    obtain ⟨hb, hD, hS, ⟨σt, hDt⟩, ⟨pm, hH⟩, hT, ⟨go, gl, hG, hgl, hgo⟩, ⟨nx, tk, ts, ex, hsc⟩, hR⟩ := id hP
    obtain ⟨τ, hTt, hT0⟩ := id hT
    unfold s_po at hb
    have hd := hD.1
    have hs := hsc.1
    have hk := hH.1
    have ht := hTt.1
    have hg := hG.1
    have hr := hR.1
    have htd := hDt.1
    have hsd := hS.1
    have q1 := hD.2.1
    have q2 := hD.2.2.1
    have q3 := hD.2.2.2.1
    have q4 := hD.2.2.2.2
    have u1 := hDt.2.1
    have u2 := hDt.2.2.1
    have u3 := hDt.2.2.2.1
    have u4 := hDt.2.2.2.2
    rw [ok.1, ok.2.2.1] at hd
    refine g_if_eq (tgt := 38) dX8_violations_32 (by decide) (fun c_32 => ?_) (fun c_32 => ?_)
    · have e1 := c_32
      refine g_aload_n dX8_violations_38 rfl (by rfl) ?_
      refine g_iload_n dX8_violations_39 rfl (by rfl) ?_
      refine g_callV_e (c_X8_isForbidden hP hn ok _) dX8_violations_40 (mX8_isForbidden) rfl lX8_256 iX8_isForbidden vX8_isForbidden (by decide) (by omega) (by exact hb) rfl rfl rfl rfl (Nat.le_of_ble_eq_true rfl) ?_
      refine g_if_eq (tgt := 49) dX8_violations_43 (by decide) (fun c_43 => ?_) (fun c_43 => ?_)
      · refine g_aload_n dX8_violations_49 rfl (by rfl) ?_
        refine g_iload_n dX8_violations_50 rfl (by rfl) ?_
        refine g_callV_p (c_X8_isOutOfBounds hP hn ok _) dX8_violations_51 (mX8_isOutOfBounds) rfl lX8_259 iX8_isOutOfBounds vX8_isOutOfBounds (by decide) (by omega) (by exact hb) rfl rfl rfl rfl (Nat.le_of_ble_eq_true rfl) (fun v9 h9 z9 => ?_)
        obtain ⟨rfl, hP, qoff⟩ := z9
        have hoff := hoff.trans (qoff.wide (a := _) (b := _) (a' := b) (b' := b + 93) (by omega) (by omega))
        obtain ⟨hb, hD, hS, ⟨σt, hDt⟩, ⟨pm, hH⟩, hT, ⟨go, gl, hG, hgl, hgo⟩, ⟨nx, tk, ts, ex, hsc⟩, hR⟩ := id hP
        obtain ⟨τ, hTt, hT0⟩ := id hT
        unfold s_po at hb
        have hd := hD.1
        have hs := hsc.1
        have hk := hH.1
        have ht := hTt.1
        have hg := hG.1
        have hr := hR.1
        have htd := hDt.1
        have hsd := hS.1
        have q1 := hD.2.1
        have q2 := hD.2.2.1
        have q3 := hD.2.2.2.1
        have q4 := hD.2.2.2.2
        have u1 := hDt.2.1
        have u2 := hDt.2.2.1
        have u3 := hDt.2.2.2.1
        have u4 := hDt.2.2.2.2
        rw [ok.1, ok.2.2.1] at hd
        refine g_if_eq (tgt := 60) dX8_violations_54 (by decide) (fun c_54 => ?_) (fun c_54 => ?_)
        · refine g_iload dX8_violations_60 (by rfl) ?_
          refine g_ireturn dX8_violations_62 rfl ?_
          refine ⟨rfl, ?_, hP, hoff⟩
          rw [if_neg hnn]
          refine s_some ?_
          first | rw [v_v1 c_32] | rw [v_v0 c_32]
          first | rw [v_v1 c_43] | rw [v_v0 c_43]
          first | rw [v_v1 c_54] | rw [v_v0 c_54]
          rfl
        · refine g_iinc _ dX8_violations_57 (by rfl) rfl ?_
          refine g_iload dX8_violations_60 (by rfl) ?_
          refine g_ireturn dX8_violations_62 rfl ?_
          refine ⟨rfl, ?_, hP, hoff⟩
          rw [if_neg hnn]
          refine s_some ?_
          first | rw [v_v1 c_32] | rw [v_v0 c_32]
          first | rw [v_v1 c_43] | rw [v_v0 c_43]
          first | rw [v_v1 c_54] | rw [v_v0 c_54]
          rfl
      · refine g_iinc _ dX8_violations_46 (by rfl) rfl ?_
        refine g_aload_n dX8_violations_49 rfl (by rfl) ?_
        refine g_iload_n dX8_violations_50 rfl (by rfl) ?_
        refine g_callV_p (c_X8_isOutOfBounds hP hn ok _) dX8_violations_51 (mX8_isOutOfBounds) rfl lX8_259 iX8_isOutOfBounds vX8_isOutOfBounds (by decide) (by omega) (by exact hb) rfl rfl rfl rfl (Nat.le_of_ble_eq_true rfl) (fun v9 h9 z9 => ?_)
        obtain ⟨rfl, hP, qoff⟩ := z9
        have hoff := hoff.trans (qoff.wide (a := _) (b := _) (a' := b) (b' := b + 93) (by omega) (by omega))
        obtain ⟨hb, hD, hS, ⟨σt, hDt⟩, ⟨pm, hH⟩, hT, ⟨go, gl, hG, hgl, hgo⟩, ⟨nx, tk, ts, ex, hsc⟩, hR⟩ := id hP
        obtain ⟨τ, hTt, hT0⟩ := id hT
        unfold s_po at hb
        have hd := hD.1
        have hs := hsc.1
        have hk := hH.1
        have ht := hTt.1
        have hg := hG.1
        have hr := hR.1
        have htd := hDt.1
        have hsd := hS.1
        have q1 := hD.2.1
        have q2 := hD.2.2.1
        have q3 := hD.2.2.2.1
        have q4 := hD.2.2.2.2
        have u1 := hDt.2.1
        have u2 := hDt.2.2.1
        have u3 := hDt.2.2.2.1
        have u4 := hDt.2.2.2.2
        rw [ok.1, ok.2.2.1] at hd
        refine g_if_eq (tgt := 60) dX8_violations_54 (by decide) (fun c_54 => ?_) (fun c_54 => ?_)
        · refine g_iload dX8_violations_60 (by rfl) ?_
          refine g_ireturn dX8_violations_62 rfl ?_
          refine ⟨rfl, ?_, hP, hoff⟩
          rw [if_neg hnn]
          refine s_some ?_
          first | rw [v_v1 c_32] | rw [v_v0 c_32]
          first | rw [v_v1 c_43] | rw [v_v0 c_43]
          first | rw [v_v1 c_54] | rw [v_v0 c_54]
          rfl
        · refine g_iinc _ dX8_violations_57 (by rfl) rfl ?_
          refine g_iload dX8_violations_60 (by rfl) ?_
          refine g_ireturn dX8_violations_62 rfl ?_
          refine ⟨rfl, ?_, hP, hoff⟩
          rw [if_neg hnn]
          refine s_some ?_
          first | rw [v_v1 c_32] | rw [v_v0 c_32]
          first | rw [v_v1 c_43] | rw [v_v0 c_43]
          first | rw [v_v1 c_54] | rw [v_v0 c_54]
          rfl
    · have e1 := c_32
      refine g_iinc _ dX8_violations_35 (by rfl) rfl ?_
      refine g_aload_n dX8_violations_38 rfl (by rfl) ?_
      refine g_iload_n dX8_violations_39 rfl (by rfl) ?_
      refine g_callV_e (c_X8_isForbidden hP hn ok _) dX8_violations_40 (mX8_isForbidden) rfl lX8_256 iX8_isForbidden vX8_isForbidden (by decide) (by omega) (by exact hb) rfl rfl rfl rfl (Nat.le_of_ble_eq_true rfl) ?_
      refine g_if_eq (tgt := 49) dX8_violations_43 (by decide) (fun c_43 => ?_) (fun c_43 => ?_)
      · refine g_aload_n dX8_violations_49 rfl (by rfl) ?_
        refine g_iload_n dX8_violations_50 rfl (by rfl) ?_
        refine g_callV_p (c_X8_isOutOfBounds hP hn ok _) dX8_violations_51 (mX8_isOutOfBounds) rfl lX8_259 iX8_isOutOfBounds vX8_isOutOfBounds (by decide) (by omega) (by exact hb) rfl rfl rfl rfl (Nat.le_of_ble_eq_true rfl) (fun v9 h9 z9 => ?_)
        obtain ⟨rfl, hP, qoff⟩ := z9
        have hoff := hoff.trans (qoff.wide (a := _) (b := _) (a' := b) (b' := b + 93) (by omega) (by omega))
        obtain ⟨hb, hD, hS, ⟨σt, hDt⟩, ⟨pm, hH⟩, hT, ⟨go, gl, hG, hgl, hgo⟩, ⟨nx, tk, ts, ex, hsc⟩, hR⟩ := id hP
        obtain ⟨τ, hTt, hT0⟩ := id hT
        unfold s_po at hb
        have hd := hD.1
        have hs := hsc.1
        have hk := hH.1
        have ht := hTt.1
        have hg := hG.1
        have hr := hR.1
        have htd := hDt.1
        have hsd := hS.1
        have q1 := hD.2.1
        have q2 := hD.2.2.1
        have q3 := hD.2.2.2.1
        have q4 := hD.2.2.2.2
        have u1 := hDt.2.1
        have u2 := hDt.2.2.1
        have u3 := hDt.2.2.2.1
        have u4 := hDt.2.2.2.2
        rw [ok.1, ok.2.2.1] at hd
        refine g_if_eq (tgt := 60) dX8_violations_54 (by decide) (fun c_54 => ?_) (fun c_54 => ?_)
        · refine g_iload dX8_violations_60 (by rfl) ?_
          refine g_ireturn dX8_violations_62 rfl ?_
          refine ⟨rfl, ?_, hP, hoff⟩
          rw [if_neg hnn]
          refine s_some ?_
          first | rw [v_v1 c_32] | rw [v_v0 c_32]
          first | rw [v_v1 c_43] | rw [v_v0 c_43]
          first | rw [v_v1 c_54] | rw [v_v0 c_54]
          rfl
        · refine g_iinc _ dX8_violations_57 (by rfl) rfl ?_
          refine g_iload dX8_violations_60 (by rfl) ?_
          refine g_ireturn dX8_violations_62 rfl ?_
          refine ⟨rfl, ?_, hP, hoff⟩
          rw [if_neg hnn]
          refine s_some ?_
          first | rw [v_v1 c_32] | rw [v_v0 c_32]
          first | rw [v_v1 c_43] | rw [v_v0 c_43]
          first | rw [v_v1 c_54] | rw [v_v0 c_54]
          rfl
      · refine g_iinc _ dX8_violations_46 (by rfl) rfl ?_
        refine g_aload_n dX8_violations_49 rfl (by rfl) ?_
        refine g_iload_n dX8_violations_50 rfl (by rfl) ?_
        refine g_callV_p (c_X8_isOutOfBounds hP hn ok _) dX8_violations_51 (mX8_isOutOfBounds) rfl lX8_259 iX8_isOutOfBounds vX8_isOutOfBounds (by decide) (by omega) (by exact hb) rfl rfl rfl rfl (Nat.le_of_ble_eq_true rfl) (fun v9 h9 z9 => ?_)
        obtain ⟨rfl, hP, qoff⟩ := z9
        have hoff := hoff.trans (qoff.wide (a := _) (b := _) (a' := b) (b' := b + 93) (by omega) (by omega))
        obtain ⟨hb, hD, hS, ⟨σt, hDt⟩, ⟨pm, hH⟩, hT, ⟨go, gl, hG, hgl, hgo⟩, ⟨nx, tk, ts, ex, hsc⟩, hR⟩ := id hP
        obtain ⟨τ, hTt, hT0⟩ := id hT
        unfold s_po at hb
        have hd := hD.1
        have hs := hsc.1
        have hk := hH.1
        have ht := hTt.1
        have hg := hG.1
        have hr := hR.1
        have htd := hDt.1
        have hsd := hS.1
        have q1 := hD.2.1
        have q2 := hD.2.2.1
        have q3 := hD.2.2.2.1
        have q4 := hD.2.2.2.2
        have u1 := hDt.2.1
        have u2 := hDt.2.2.1
        have u3 := hDt.2.2.2.1
        have u4 := hDt.2.2.2.2
        rw [ok.1, ok.2.2.1] at hd
        refine g_if_eq (tgt := 60) dX8_violations_54 (by decide) (fun c_54 => ?_) (fun c_54 => ?_)
        · refine g_iload dX8_violations_60 (by rfl) ?_
          refine g_ireturn dX8_violations_62 rfl ?_
          refine ⟨rfl, ?_, hP, hoff⟩
          rw [if_neg hnn]
          refine s_some ?_
          first | rw [v_v1 c_32] | rw [v_v0 c_32]
          first | rw [v_v1 c_43] | rw [v_v0 c_43]
          first | rw [v_v1 c_54] | rw [v_v0 c_54]
          rfl
        · refine g_iinc _ dX8_violations_57 (by rfl) rfl ?_
          refine g_iload dX8_violations_60 (by rfl) ?_
          refine g_ireturn dX8_violations_62 rfl ?_
          refine ⟨rfl, ?_, hP, hoff⟩
          rw [if_neg hnn]
          refine s_some ?_
          first | rw [v_v1 c_32] | rw [v_v0 c_32]
          first | rw [v_v1 c_43] | rw [v_v0 c_43]
          first | rw [v_v1 c_54] | rw [v_v0 c_54]
          rfl
  · refine g_iconst 0 dX8_violations_17 (by rfl) ?_
    refine g_ireturn dX8_violations_18 rfl ?_
    exact ⟨rfl, by rw [if_pos (show u_best π.1 cnt cp = r_NP from (lg_cmp_eq _ _).mp c_14)], hP, hoff⟩
