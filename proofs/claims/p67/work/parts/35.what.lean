/-! THE COMPONENT: greedy plans, cells, capacities, what changes would do -/
noncomputable def v_gp (σ : s_D) (cnt : Nat) : Int32 := (g_tf σ (g_srt σ cnt).1 (d_set σ 1 cnt) (d_room σ cnt) (g_srt σ cnt).2).1
noncomputable def v_bd (σ : s_D) (cnt : Nat) : Int32 := g_bd σ (g_srt σ cnt).1 (g_srt σ cnt).2 0 (d_tot (d_wt σ) (d_set σ 1 cnt) cnt) (d_room σ cnt)
/-- the first capacity from c on whose best plan weighs so much -/
def v_fc (σ : s_D) (cnt : Nat) (w : Int32) : Nat → Nat → Int32
  | 0, _ => -1
  | k + 1, c => if w ≤ r_wt (u_best σ cnt c) then nI c else v_fc σ cnt w k (c + 1)
def v_sp (σ : s_D) (cnt : Nat) : Nat → Nat
  | 0 => 0
  | k + 1 => if r_wt (u_best σ cnt k) < r_wt (u_best σ cnt (k + 1)) then v_sp σ cnt k + 1 else v_sp σ cnt k
theorem v_sp_le {σ : s_D} {cnt : Nat} : ∀ k, v_sp σ cnt k ≤ k
  | 0 => Nat.le_refl _
  | k + 1 => by
    have := v_sp_le (σ := σ) (cnt := cnt) k
    unfold v_sp
    split <;> omega

theorem c_X8_greedyPlan {h : s_H} {n b : Nat} {π : s_Pl} (hP : s_pl h b π) (hn : b + 93 ≤ n) {cnt cp : Nat} (ok : d_ok π.1 cnt cp) : s_Mt TX8_greedyPlan 0 0 [.ref b] h n (s_rp n (fun v9 h1 => v9 = some (.int (if d_room π.1 cnt < 0 then -1 else v_gp π.1 cnt)) ∧ s_pl h1 b π ∧ s_off h h1 b (b + 93)) s_no) := by
  obtain ⟨hb, hD, hS, ⟨σt, hDt⟩, ⟨pm, hH⟩, hT, ⟨go, gl, hG, hgl, hgo⟩, ⟨nx, tk, ts, ex, hsc⟩, hR⟩ := id hP
  obtain ⟨τ, hTt, hT0⟩ := id hT
  unfold s_po at hb
  have hd := hD.1
  have hs := hsc.1
  have hk := hH.1
  have ht := hTt.1
  have hg := hG.1
  have hr := hR.1
  have htd := hDt.1
  have hsd := hS.1
  have q1 := hD.2.1
  have q2 := hD.2.2.1
  have q3 := hD.2.2.2.1
  have q4 := hD.2.2.2.2
  have u1 := hDt.2.1
  have u2 := hDt.2.2.1
  have u3 := hDt.2.2.2.1
  have u4 := hDt.2.2.2.2
  rw [ok.1, ok.2.2.1] at hd
  have hoff : s_off h h b (b + 93) := s_off.rf
  refine s_Mt_of rfl (by decide) (by exact Nat.le_of_ble_eq_true rfl) ?_
  refine g_aload_n dX8_greedyPlan_0 rfl (by rfl) ?_
  refine g_getf dX8_greedyPlan_1 fX8_12 (by exact hb) (by omega) (by rfl) ?_
  refine g_callV_e (c_X2_room hD (by omega) ok.1 ok.2.1) dX8_greedyPlan_4 (mX2_room) rfl lX8_189 iX2_room vX2_room (by decide) (by omega) (by first | exact hd | exact htd | exact hsd) rfl rfl rfl rfl (Nat.le_of_ble_eq_true rfl) ?_
  refine g_if_ge (tgt := 12) dX8_greedyPlan_7 (by decide) (fun c_7 => ?_) (fun c_7 => ?_)
  · refine g_aload_n dX8_greedyPlan_12 rfl (by rfl) ?_
    refine g_getf dX8_greedyPlan_13 fX8_43 (by exact hb) (by omega) (by rfl) ?_
    refine g_aload_n dX8_greedyPlan_16 rfl (by rfl) ?_
    refine g_getf dX8_greedyPlan_17 fX8_12 (by exact hb) (by omega) (by rfl) ?_
    refine g_callV_p (c_X3_sort hG hD (by omega) (by omega) (by omega) ok.1 ok.2.1) dX8_greedyPlan_20 (mX3_sort) rfl lX8_182 iX3_sort vX3_sort (by decide) (by omega) (by exact hg) rfl rfl rfl rfl (Nat.le_of_ble_eq_true rfl) (fun v9 h9 z9 => ?_)
    obtain ⟨rfl, qg, qoff⟩ := z9
    have hl9 := g_srt_len (σ := π.1) cnt
    have hP := hP.grd qoff qg (by have := ok.2.1; omega) (fun q hq => by have := g_srt_lt cnt q hq; have := ok.2.1; omega)
    have hoff := hoff.trans (qoff.wide (a := _) (b := _) (a' := b) (b' := b + 93) (by omega) (by omega))
    obtain ⟨hb, hD, hS, ⟨σt, hDt⟩, ⟨pm, hH⟩, hT, ⟨go, gl, hG, hgl, hgo⟩, ⟨nx, tk, ts, ex, hsc⟩, hR⟩ := id hP
    obtain ⟨τ, hTt, hT0⟩ := id hT
    unfold s_po at hb
    have hd := hD.1
    have hs := hsc.1
    have hk := hH.1
    have ht := hTt.1
    have hg := hG.1
    have hr := hR.1
    have htd := hDt.1
    have hsd := hS.1
    have q1 := hD.2.1
    have q2 := hD.2.2.1
    have q3 := hD.2.2.2.1
    have q4 := hD.2.2.2.2
    have u1 := hDt.2.1
    have u2 := hDt.2.2.1
    have u3 := hDt.2.2.2.1
    have u4 := hDt.2.2.2.2
    rw [ok.1, ok.2.2.1] at hd
    refine g_aload_n dX8_greedyPlan_23 rfl (by rfl) ?_
    refine g_getf dX8_greedyPlan_24 fX8_43 (by exact hb) (by omega) (by rfl) ?_
    refine g_aload_n dX8_greedyPlan_27 rfl (by rfl) ?_
    refine g_getf dX8_greedyPlan_28 fX8_12 (by exact hb) (by omega) (by rfl) ?_
    refine g_callV_e (c_X3_takeFitting qg hD (by omega) (by omega) ok.1 ok.2.1 (by have := ok.2.1; omega) (fun q hq => by have := g_srt_lt cnt q hq; have := ok.2.1; omega)) dX8_greedyPlan_31 (mX3_takeFitting) rfl lX8_226 iX3_takeFitting vX3_takeFitting (by decide) (by omega) (by exact qg.1) rfl rfl rfl rfl (Nat.le_of_ble_eq_true rfl) ?_
    refine g_ireturn dX8_greedyPlan_34 rfl ?_
    exact ⟨rfl, by rw [if_neg (Int32.not_lt.mpr c_7)]; rfl, hP, hoff⟩
  · refine g_iconst (-1) dX8_greedyPlan_10 (by rfl) ?_
    refine g_ireturn dX8_greedyPlan_11 rfl ?_
    exact ⟨rfl, by rw [if_pos (Int32.not_le.mp c_7)], hP, hoff⟩

theorem c_X8_greedyWeight {h : s_H} {n b : Nat} {π : s_Pl} (hP : s_pl h b π) (hn : b + 93 ≤ n) {cnt cp : Nat} (ok : d_ok π.1 cnt cp) : s_Mt TX8_greedyWeight 0 0 [.ref b] h n (s_rp n (fun v9 h1 => v9 = some (.int (if d_room π.1 cnt < 0 then -1 else d_tot (d_wt π.1) (v_gp π.1 cnt) cnt)) ∧ s_pl h1 b π ∧ s_off h h1 b (b + 93)) s_no) := by
  obtain ⟨hb, hD, hS, ⟨σt, hDt⟩, ⟨pm, hH⟩, hT, ⟨go, gl, hG, hgl, hgo⟩, ⟨nx, tk, ts, ex, hsc⟩, hR⟩ := id hP
  obtain ⟨τ, hTt, hT0⟩ := id hT
  unfold s_po at hb
  have hd := hD.1
  have hs := hsc.1
  have hk := hH.1
  have ht := hTt.1
  have hg := hG.1
  have hr := hR.1
  have htd := hDt.1
  have hsd := hS.1
  have q1 := hD.2.1
  have q2 := hD.2.2.1
  have q3 := hD.2.2.2.1
  have q4 := hD.2.2.2.2
  have u1 := hDt.2.1
  have u2 := hDt.2.2.1
  have u3 := hDt.2.2.2.1
  have u4 := hDt.2.2.2.2
  rw [ok.1, ok.2.2.1] at hd
  have hoff : s_off h h b (b + 93) := s_off.rf
  refine s_Mt_of rfl (by decide) (by exact Nat.le_of_ble_eq_true rfl) ?_
  refine g_aload_n dX8_greedyWeight_0 rfl (by rfl) ?_
  refine g_getf dX8_greedyWeight_1 fX8_12 (by exact hb) (by omega) (by rfl) ?_
  refine g_callV_e (c_X2_room hD (by omega) ok.1 ok.2.1) dX8_greedyWeight_4 (mX2_room) rfl lX8_189 iX2_room vX2_room (by decide) (by omega) (by first | exact hd | exact htd | exact hsd) rfl rfl rfl rfl (Nat.le_of_ble_eq_true rfl) ?_
  refine g_if_ge (tgt := 12) dX8_greedyWeight_7 (by decide) (fun c_7 => ?_) (fun c_7 => ?_)
  · refine g_aload_n dX8_greedyWeight_12 rfl (by rfl) ?_
    refine g_getf dX8_greedyWeight_13 fX8_43 (by exact hb) (by omega) (by rfl) ?_
    refine g_aload_n dX8_greedyWeight_16 rfl (by rfl) ?_
    refine g_getf dX8_greedyWeight_17 fX8_12 (by exact hb) (by omega) (by rfl) ?_
    refine g_callV_p (c_X3_sort hG hD (by omega) (by omega) (by omega) ok.1 ok.2.1) dX8_greedyWeight_20 (mX3_sort) rfl lX8_182 iX3_sort vX3_sort (by decide) (by omega) (by exact hg) rfl rfl rfl rfl (Nat.le_of_ble_eq_true rfl) (fun v9 h9 z9 => ?_)
    obtain ⟨rfl, qg, qoff⟩ := z9
    have hl9 := g_srt_len (σ := π.1) cnt
    have hP := hP.grd qoff qg (by have := ok.2.1; omega) (fun q hq => by have := g_srt_lt cnt q hq; have := ok.2.1; omega)
    have hoff := hoff.trans (qoff.wide (a := _) (b := _) (a' := b) (b' := b + 93) (by omega) (by omega))
    obtain ⟨hb, hD, hS, ⟨σt, hDt⟩, ⟨pm, hH⟩, hT, ⟨go, gl, hG, hgl, hgo⟩, ⟨nx, tk, ts, ex, hsc⟩, hR⟩ := id hP
    obtain ⟨τ, hTt, hT0⟩ := id hT
    unfold s_po at hb
    have hd := hD.1
    have hs := hsc.1
    have hk := hH.1
    have ht := hTt.1
    have hg := hG.1
    have hr := hR.1
    have htd := hDt.1
    have hsd := hS.1
    have q1 := hD.2.1
    have q2 := hD.2.2.1
    have q3 := hD.2.2.2.1
    have q4 := hD.2.2.2.2
    have u1 := hDt.2.1
    have u2 := hDt.2.2.1
    have u3 := hDt.2.2.2.1
    have u4 := hDt.2.2.2.2
    rw [ok.1, ok.2.2.1] at hd
    refine g_aload_n dX8_greedyWeight_23 rfl (by rfl) ?_
    refine g_getf dX8_greedyWeight_24 fX8_12 (by exact hb) (by omega) (by rfl) ?_
    refine g_aload_n dX8_greedyWeight_27 rfl (by rfl) ?_
    refine g_getf dX8_greedyWeight_28 fX8_43 (by exact hb) (by omega) (by rfl) ?_
    refine g_aload_n dX8_greedyWeight_31 rfl (by rfl) ?_
    refine g_getf dX8_greedyWeight_32 fX8_12 (by exact hb) (by omega) (by rfl) ?_
    refine g_callV_e (c_X3_takeFitting qg hD (by omega) (by omega) ok.1 ok.2.1 (by have := ok.2.1; omega) (fun q hq => by have := g_srt_lt cnt q hq; have := ok.2.1; omega)) dX8_greedyWeight_35 (mX3_takeFitting) rfl lX8_226 iX3_takeFitting vX3_takeFitting (by decide) (by omega) (by exact qg.1) rfl rfl rfl rfl (Nat.le_of_ble_eq_true rfl) ?_
    refine g_callV_e (c_X2_totalWeight hD (by omega) ok.1 ok.2.1 _) dX8_greedyWeight_38 (mX2_totalWeight) rfl lX8_229 iX2_totalWeight vX2_totalWeight (by decide) (by omega) (by first | exact hd | exact htd | exact hsd) rfl rfl rfl rfl (Nat.le_of_ble_eq_true rfl) ?_
    refine g_ireturn dX8_greedyWeight_41 rfl ?_
    exact ⟨rfl, by rw [if_neg (Int32.not_lt.mpr c_7)]; rfl, hP, hoff⟩
  · refine g_iconst (-1) dX8_greedyWeight_10 (by rfl) ?_
    refine g_ireturn dX8_greedyWeight_11 rfl ?_
    exact ⟨rfl, by rw [if_pos (Int32.not_le.mp c_7)], hP, hoff⟩

theorem c_X8_upperBound {h : s_H} {n b : Nat} {π : s_Pl} (hP : s_pl h b π) (hn : b + 93 ≤ n) {cnt cp : Nat} (ok : d_ok π.1 cnt cp) : s_Mt TX8_upperBound 0 0 [.ref b] h n (s_rp n (fun v9 h1 => v9 = some (.int (if d_room π.1 cnt < 0 then -1 else v_bd π.1 cnt)) ∧ s_pl h1 b π ∧ s_off h h1 b (b + 93)) s_no) := by
  obtain ⟨hb, hD, hS, ⟨σt, hDt⟩, ⟨pm, hH⟩, hT, ⟨go, gl, hG, hgl, hgo⟩, ⟨nx, tk, ts, ex, hsc⟩, hR⟩ := id hP
  obtain ⟨τ, hTt, hT0⟩ := id hT
  unfold s_po at hb
  have hd := hD.1
  have hs := hsc.1
  have hk := hH.1
  have ht := hTt.1
  have hg := hG.1
  have hr := hR.1
  have htd := hDt.1
  have hsd := hS.1
  have q1 := hD.2.1
  have q2 := hD.2.2.1
  have q3 := hD.2.2.2.1
  have q4 := hD.2.2.2.2
  have u1 := hDt.2.1
  have u2 := hDt.2.2.1
  have u3 := hDt.2.2.2.1
  have u4 := hDt.2.2.2.2
  rw [ok.1, ok.2.2.1] at hd
  have hoff : s_off h h b (b + 93) := s_off.rf
  refine s_Mt_of rfl (by decide) (by exact Nat.le_of_ble_eq_true rfl) ?_
  refine g_aload_n dX8_upperBound_0 rfl (by rfl) ?_
  refine g_getf dX8_upperBound_1 fX8_12 (by exact hb) (by omega) (by rfl) ?_
  refine g_callV_e (c_X2_room hD (by omega) ok.1 ok.2.1) dX8_upperBound_4 (mX2_room) rfl lX8_189 iX2_room vX2_room (by decide) (by omega) (by first | exact hd | exact htd | exact hsd) rfl rfl rfl rfl (Nat.le_of_ble_eq_true rfl) ?_
  refine g_if_ge (tgt := 12) dX8_upperBound_7 (by decide) (fun c_7 => ?_) (fun c_7 => ?_)
  · refine g_aload_n dX8_upperBound_12 rfl (by rfl) ?_
    refine g_getf dX8_upperBound_13 fX8_43 (by exact hb) (by omega) (by rfl) ?_
    refine g_aload_n dX8_upperBound_16 rfl (by rfl) ?_
    refine g_getf dX8_upperBound_17 fX8_12 (by exact hb) (by omega) (by rfl) ?_
    refine g_callV_p (c_X3_sort hG hD (by omega) (by omega) (by omega) ok.1 ok.2.1) dX8_upperBound_20 (mX3_sort) rfl lX8_182 iX3_sort vX3_sort (by decide) (by omega) (by exact hg) rfl rfl rfl rfl (Nat.le_of_ble_eq_true rfl) (fun v9 h9 z9 => ?_)
    obtain ⟨rfl, qg, qoff⟩ := z9
    have hl9 := g_srt_len (σ := π.1) cnt
    have hP := hP.grd qoff qg (by have := ok.2.1; omega) (fun q hq => by have := g_srt_lt cnt q hq; have := ok.2.1; omega)
    have hoff := hoff.trans (qoff.wide (a := _) (b := _) (a' := b) (b' := b + 93) (by omega) (by omega))
    obtain ⟨hb, hD, hS, ⟨σt, hDt⟩, ⟨pm, hH⟩, hT, ⟨go, gl, hG, hgl, hgo⟩, ⟨nx, tk, ts, ex, hsc⟩, hR⟩ := id hP
    obtain ⟨τ, hTt, hT0⟩ := id hT
    unfold s_po at hb
    have hd := hD.1
    have hs := hsc.1
    have hk := hH.1
    have ht := hTt.1
    have hg := hG.1
    have hr := hR.1
    have htd := hDt.1
    have hsd := hS.1
    have q1 := hD.2.1
    have q2 := hD.2.2.1
    have q3 := hD.2.2.2.1
    have q4 := hD.2.2.2.2
    have u1 := hDt.2.1
    have u2 := hDt.2.2.1
    have u3 := hDt.2.2.2.1
    have u4 := hDt.2.2.2.2
    rw [ok.1, ok.2.2.1] at hd
    refine g_aload_n dX8_upperBound_23 rfl (by rfl) ?_
    refine g_getf dX8_upperBound_24 fX8_43 (by exact hb) (by omega) (by rfl) ?_
    refine g_aload_n dX8_upperBound_27 rfl (by rfl) ?_
    refine g_getf dX8_upperBound_28 fX8_12 (by exact hb) (by omega) (by rfl) ?_
    refine g_callV_e (c_X3_bound qg hD (by omega) (by omega) ok.1 ok.2.1 (by have := ok.2.1; omega) (fun q hq => by have := g_srt_lt cnt q hq; have := ok.2.1; omega)) dX8_upperBound_31 (mX3_bound) rfl lX8_232 iX3_bound vX3_bound (by decide) (by omega) (by exact qg.1) rfl rfl rfl rfl (Nat.le_of_ble_eq_true rfl) ?_
    refine g_ireturn dX8_upperBound_34 rfl ?_
    exact ⟨rfl, by rw [if_neg (Int32.not_lt.mpr c_7)]; rfl, hP, hoff⟩
  · refine g_iconst (-1) dX8_upperBound_10 (by rfl) ?_
    refine g_ireturn dX8_upperBound_11 rfl ?_
    exact ⟨rfl, by rw [if_pos (Int32.not_le.mp c_7)], hP, hoff⟩

theorem c_X8_optimalPlans {h : s_H} {n b : Nat} {π : s_Pl} (hP : s_pl h b π) (hn : b + 93 ≤ n) {cnt cp : Nat} (ok : d_ok π.1 cnt cp) : s_Mt TX8_optimalPlans 0 0 [.ref b] h n (s_rp n (fun v9 h1 => (∃ τ : s_Tb, (∀ c, c ≤ 100 → τ.1 0 c = 0) ∧ v9 = some (.int (if d_room π.1 cnt < 0 then 0 else t_ow (t_build π.1 100 τ cnt) π.1 (d_room π.1 cnt).toNatClampNeg (t_build π.1 100 τ cnt).2.2.2.1 (d_room π.1 cnt).toNatClampNeg))) ∧ s_pl h1 b π ∧ s_off h h1 b (b + 93)) s_no) := by
  obtain ⟨hb, hD, hS, ⟨σt, hDt⟩, ⟨pm, hH⟩, hT, ⟨go, gl, hG, hgl, hgo⟩, ⟨nx, tk, ts, ex, hsc⟩, hR⟩ := id hP
  obtain ⟨τ, hTt, hT0⟩ := id hT
  unfold s_po at hb
  have hd := hD.1
  have hs := hsc.1
  have hk := hH.1
  have ht := hTt.1
  have hg := hG.1
  have hr := hR.1
  have htd := hDt.1
  have hsd := hS.1
  have q1 := hD.2.1
  have q2 := hD.2.2.1
  have q3 := hD.2.2.2.1
  have q4 := hD.2.2.2.2
  have u1 := hDt.2.1
  have u2 := hDt.2.2.1
  have u3 := hDt.2.2.2.1
  have u4 := hDt.2.2.2.2
  rw [ok.1, ok.2.2.1] at hd
  have hoff : s_off h h b (b + 93) := s_off.rf
  refine s_Mt_of rfl (by decide) (by exact Nat.le_of_ble_eq_true rfl) ?_
  refine g_aload_n dX8_optimalPlans_0 rfl (by rfl) ?_
  refine g_getf dX8_optimalPlans_1 fX8_12 (by exact hb) (by omega) (by rfl) ?_
  refine g_callV_e (c_X2_room hD (by omega) ok.1 ok.2.1) dX8_optimalPlans_4 (mX2_room) rfl lX8_189 iX2_room vX2_room (by decide) (by omega) (by first | exact hd | exact htd | exact hsd) rfl rfl rfl rfl (Nat.le_of_ble_eq_true rfl) ?_
  refine g_if_ge (tgt := 12) dX8_optimalPlans_7 (by decide) (fun c_7 => ?_) (fun c_7 => ?_)
  · obtain ⟨rm, hrm, hrmc⟩ := u_rm ok ok.2.2.2.1 (by rw [← d_room_eq ok]; exact Int32.not_lt.mpr c_7)
    rw [← d_room_eq ok] at hrm
    have hcp9 := ok.2.2.2.1
    refine g_aload_n dX8_optimalPlans_12 rfl (by rfl) ?_
    refine g_getf dX8_optimalPlans_13 fX8_36 (by exact hb) (by omega) (by rfl) ?_
    refine g_aload_n dX8_optimalPlans_16 rfl (by rfl) ?_
    refine g_getf dX8_optimalPlans_17 fX8_12 (by exact hb) (by omega) (by rfl) ?_
    refine g_bipush 100 dX8_optimalPlans_20 (by rfl) ?_
    refine g_callV_p (c_X7_build (cnt := cnt) (lc := 100) hTt hD (by omega) (by omega) (by omega) ok.1 ok.2.1 ok.sz (by omega)) dX8_optimalPlans_22 (mX7_build) rfl lX8_205 iX7_build vX7_build (by decide) (by omega) (by exact ht) rfl rfl rfl rfl (Nat.le_of_ble_eq_true rfl) (fun v9 h9 z9 => ?_)
    obtain ⟨rfl, qtab, qoff⟩ := z9
    have hz9 := hT0
    have hP := hP.tab qoff (u_t0 qtab hT0)
    have hoff := hoff.trans (qoff.wide (a := _) (b := _) (a' := b) (b' := b + 93) (by omega) (by omega))
    obtain ⟨hb, hD, hS, ⟨σt, hDt⟩, ⟨pm, hH⟩, hT, ⟨go, gl, hG, hgl, hgo⟩, ⟨nx, tk, ts, ex, hsc⟩, hR⟩ := id hP
    obtain ⟨τ, hTt, hT0⟩ := id hT
    unfold s_po at hb
    have hd := hD.1
    have hs := hsc.1
    have hk := hH.1
    have ht := hTt.1
    have hg := hG.1
    have hr := hR.1
    have htd := hDt.1
    have hsd := hS.1
    have q1 := hD.2.1
    have q2 := hD.2.2.1
    have q3 := hD.2.2.2.1
    have q4 := hD.2.2.2.2
    have u1 := hDt.2.1
    have u2 := hDt.2.2.1
    have u3 := hDt.2.2.2.1
    have u4 := hDt.2.2.2.2
    rw [ok.1, ok.2.2.1] at hd
    refine g_aload_n dX8_optimalPlans_25 rfl (by rfl) ?_
    refine g_getf dX8_optimalPlans_26 fX8_36 (by exact hb) (by omega) (by rfl) ?_
    refine g_aload_n dX8_optimalPlans_29 rfl (by rfl) ?_
    refine g_getf dX8_optimalPlans_30 fX8_12 (by exact hb) (by omega) (by rfl) ?_
    refine g_callV_p (c_X7_countOptimal (rm := rm) qtab hD (by omega) (by omega) (by omega) ok.1 ok.2.1 (by have := u_row_lt ok (u_z hz9 (Nat.le_refl _)); omega) hrm (by omega) (u_items ok (u_z hz9 (Nat.le_refl _)))) dX8_optimalPlans_33 (mX7_countOptimal) rfl lX8_209 iX7_countOptimal vX7_countOptimal (by decide) (by omega) (by exact qtab.1) rfl rfl rfl rfl (Nat.le_of_ble_eq_true rfl) (fun v9 h9 z9 => ?_)
    obtain ⟨rfl, qtab2, qoff⟩ := z9
    have hP := hP.tab qoff ⟨_, qtab2, fun c hc => (u_row0 cnt).trans (hz9 c hc)⟩
    have hoff := hoff.trans (qoff.wide (a := _) (b := _) (a' := b) (b' := b + 93) (by omega) (by omega))
    refine g_ireturn dX8_optimalPlans_36 rfl ?_
    exact ⟨rfl, ⟨_, hz9, by rw [if_neg (Int32.not_lt.mpr c_7), hrm, nI_clamp (by omega)]⟩, hP, hoff⟩
  · refine g_iconst 0 dX8_optimalPlans_10 (by rfl) ?_
    refine g_ireturn dX8_optimalPlans_11 rfl ?_
    exact ⟨rfl, ⟨_, hT0, by rw [if_pos (Int32.not_le.mp c_7)]⟩, hP, hoff⟩

theorem c_X8_cell {h : s_H} {n b : Nat} {π : s_Pl} (hP : s_pl h b π) (hn : b + 93 ≤ n) {cnt cp : Nat} (ok : d_ok π.1 cnt cp) (x y : Int32) : s_Mt TX8_cell 1 6 [.ref b, .int x, .int y] h n (s_rp n (fun v9 h1 => v9 = some (.int (u_cell π.1 cnt x.toNatClampNeg y.toNatClampNeg)) ∧ s_pl h1 b π ∧ s_off h h1 b (b + 93) ∧ ¬ (x < 0 ∨ s_bc (d_set π.1 0 cnt) < x ∨ y < 0 ∨ 100 < y)) (fun E h1 => E = "java/lang/IndexOutOfBoundsException" ∧ h1 = h ∧ ¬ ¬ (x < 0 ∨ s_bc (d_set π.1 0 cnt) < x ∨ y < 0 ∨ 100 < y))) := by
  obtain ⟨hb, hD, hS, ⟨σt, hDt⟩, ⟨pm, hH⟩, hT, ⟨go, gl, hG, hgl, hgo⟩, ⟨nx, tk, ts, ex, hsc⟩, hR⟩ := id hP
  obtain ⟨τ, hTt, hT0⟩ := id hT
  unfold s_po at hb
  have hd := hD.1
  have hs := hsc.1
  have hk := hH.1
  have ht := hTt.1
  have hg := hG.1
  have hr := hR.1
  have htd := hDt.1
  have hsd := hS.1
  have q1 := hD.2.1
  have q2 := hD.2.2.1
  have q3 := hD.2.2.2.1
  have q4 := hD.2.2.2.2
  have u1 := hDt.2.1
  have u2 := hDt.2.2.1
  have u3 := hDt.2.2.2.1
  have u4 := hDt.2.2.2.2
  rw [ok.1, ok.2.2.1] at hd
  have hoff : s_off h h b (b + 93) := s_off.rf
  refine s_Mt_of rfl (by decide) (by exact Nat.le_of_ble_eq_true rfl) ?_
  refine g_aload_n dX8_cell_0 rfl (by rfl) ?_
  refine g_iload_n dX8_cell_1 rfl (by rfl) ?_
  refine g_iconst 0 dX8_cell_2 (by rfl) ?_
  refine g_iload_n dX8_cell_3 rfl (by rfl) ?_
  refine g_callV_x (c_X8_requireCell hP hn ok x 0 y) dX8_cell_4 (mX8_requireCell) rfl lX8_220 iX8_requireCell vX8_requireCell (by decide) (by omega) (by exact hb) rfl rfl rfl rfl (Nat.le_of_ble_eq_true rfl) (Nat.le_of_ble_eq_true rfl) (Nat.le_of_ble_eq_true rfl) (fun v9 h9 z9 => ?_) (fun E9 h9 z9 => gx_out rfl ⟨rfl, z9.1, z9.2.1, fun z => z z9.2.2⟩)
  obtain ⟨rfl, hh, hin⟩ := z9
  have hh := hh.symm
  subst hh
  obtain ⟨c, hc, rfl⟩ := nI_of (fun z => hin (Or.inr (Or.inr (Or.inl z))))
  have hc100 : c ≤ 100 := Nat.le_of_not_lt fun z => hin (Or.inr (Or.inr (Or.inr (nI_lt z hc))))
  obtain ⟨r, hr, rfl⟩ := nI_of (fun z => hin (Or.inl z))
  have hrn : r ≤ u_nf π.1 cnt := Nat.le_of_not_lt fun z => hin (Or.inr (Or.inl (by rw [s_bc_free ok.2.1]; exact nI_lt z (by omega))))
  have hnf := u_nf_le (σ := π.1) cnt
  have hc14 := ok.2.1
  refine g_aload_n dX8_cell_7 rfl (by rfl) ?_
  refine g_getf dX8_cell_8 fX8_36 (by exact hb) (by omega) (by rfl) ?_
  refine g_aload_n dX8_cell_11 rfl (by rfl) ?_
  refine g_getf dX8_cell_12 fX8_12 (by exact hb) (by omega) (by rfl) ?_
  refine g_bipush 100 dX8_cell_15 (by rfl) ?_
  refine g_callV_p (c_X7_build (cnt := cnt) (lc := 100) hTt hD (by omega) (by omega) (by omega) ok.1 ok.2.1 ok.sz (by omega)) dX8_cell_17 (mX7_build) rfl lX8_205 iX7_build vX7_build (by decide) (by omega) (by exact ht) rfl rfl rfl rfl (Nat.le_of_ble_eq_true rfl) (fun v9 h9 z9 => ?_)
  obtain ⟨rfl, qtab, qoff⟩ := z9
  have hz9 := hT0
  have hP := hP.tab qoff (u_t0 qtab hT0)
  have hoff := hoff.trans (qoff.wide (a := _) (b := _) (a' := b) (b' := b + 93) (by omega) (by omega))
  obtain ⟨hb, hD, hS, ⟨σt, hDt⟩, ⟨pm, hH⟩, hT, ⟨go, gl, hG, hgl, hgo⟩, ⟨nx, tk, ts, ex, hsc⟩, hR⟩ := id hP
  obtain ⟨τ, hTt, hT0⟩ := id hT
  unfold s_po at hb
  have hd := hD.1
  have hs := hsc.1
  have hk := hH.1
  have ht := hTt.1
  have hg := hG.1
  have hr := hR.1
  have htd := hDt.1
  have hsd := hS.1
  have q1 := hD.2.1
  have q2 := hD.2.2.1
  have q3 := hD.2.2.2.1
  have q4 := hD.2.2.2.2
  have u1 := hDt.2.1
  have u2 := hDt.2.2.1
  have u3 := hDt.2.2.2.1
  have u4 := hDt.2.2.2.2
  rw [ok.1, ok.2.2.1] at hd
  refine g_aload_n dX8_cell_20 rfl (by rfl) ?_
  refine g_getf dX8_cell_21 fX8_36 (by exact hb) (by omega) (by rfl) ?_
  refine g_iload_n dX8_cell_24 rfl (by rfl) ?_
  refine g_iload_n dX8_cell_25 rfl (by rfl) ?_
  refine g_callV_e (c_X7_cellWeight (r := r) (c := c) qtab (by omega) (by omega) (by omega)) dX8_cell_26 (mX7_cellWeight) rfl lX8_223 iX7_cellWeight vX7_cellWeight (by decide) (by omega) (by exact qtab.1) rfl rfl rfl rfl (Nat.le_of_ble_eq_true rfl) ?_
  refine g_ireturn dX8_cell_29 rfl ?_
  exact ⟨rfl, by rw [u_cell_of (u_z hz9 (Nat.le_refl _)) hrn hc100, nI_clamp (by omega), nI_clamp (by omega)], hP, hoff, hin⟩
