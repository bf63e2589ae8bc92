/-! THE COMPONENT: greedy plans, cells, capacities, what changes would do -/
noncomputable def v_gp (σ : s_D) (cnt : Nat) : Int32 := (g_tf σ (g_srt σ cnt).1 (d_set σ 1 cnt) (d_room σ cnt) (g_srt σ cnt).2).1
noncomputable def v_bd (σ : s_D) (cnt : Nat) : Int32 := g_bd σ (g_srt σ cnt).1 (g_srt σ cnt).2 0 (d_tot (d_wt σ) (d_set σ 1 cnt) cnt) (d_room σ cnt)
/-- the first capacity from c on whose best plan weighs so much -/
def v_fc (σ : s_D) (cnt : Nat) (w : Int32) : Nat → Nat → Int32
  | 0, _ => -1
  | k + 1, c => if w ≤ r_wt (u_best σ cnt c) then nI c else v_fc σ cnt w k (c + 1)
def v_sp (σ : s_D) (cnt : Nat) : Nat → Nat
  | 0 => 0
  | k + 1 => if r_wt (u_best σ cnt k) < r_wt (u_best σ cnt (k + 1)) then v_sp σ cnt k + 1 else v_sp σ cnt k
theorem v_sp_le {σ : s_D} {cnt : Nat} : ∀ k, v_sp σ cnt k ≤ k
  | 0 => Nat.le_refl _
  | k + 1 => by
    have := v_sp_le (σ := σ) (cnt := cnt) k
    unfold v_sp
    split <;> omega

theorem c_X8_densestItem {h : s_H} {n b : Nat} {π : s_Pl} (hP : s_pl h b π) (hn : b + 93 ≤ n) {cnt cp : Nat} (ok : d_ok π.1 cnt cp) : s_Mt TX8_densestItem 0 0 [.ref b] h n (s_rp n (fun v9 h1 => v9 = some (.int (if (g_srt π.1 cnt).2 = 0 then -1 else nI ((g_srt π.1 cnt).1 0))) ∧ s_pl h1 b π ∧ s_off h h1 b (b + 93)) s_no) := by
  obtain ⟨hb, hD, hS, ⟨σt, hDt⟩, ⟨pm, hH⟩, hT, ⟨go, gl, hG, hgl, hgo⟩, ⟨nx, tk, ts, ex, hsc⟩, hR⟩ := id hP
  obtain ⟨τ, hTt, hT0⟩ := id hT
  unfold s_po at hb
  have hd := hD.1
  have hs := hsc.1
  have hk := hH.1
  have ht := hTt.1
  have hg := hG.1
  have hr := hR.1
  have htd := hDt.1
  have hsd := hS.1
  have q1 := hD.2.1
  have q2 := hD.2.2.1
  have q3 := hD.2.2.2.1
  have q4 := hD.2.2.2.2
  have u1 := hDt.2.1
  have u2 := hDt.2.2.1
  have u3 := hDt.2.2.2.1
  have u4 := hDt.2.2.2.2
  rw [ok.1, ok.2.2.1] at hd
  have hoff : s_off h h b (b + 93) := s_off.rf
  refine s_Mt_of rfl (by decide) (by exact Nat.le_of_ble_eq_true rfl) ?_
  refine g_aload_n dX8_densestItem_0 rfl (by rfl) ?_
  refine g_getf dX8_densestItem_1 fX8_43 (by exact hb) (by omega) (by rfl) ?_
  refine g_aload_n dX8_densestItem_4 rfl (by rfl) ?_
  refine g_getf dX8_densestItem_5 fX8_12 (by exact hb) (by omega) (by rfl) ?_
  refine g_callV_p (c_X3_sort hG hD (by omega) (by omega) (by omega) ok.1 ok.2.1) dX8_densestItem_8 (mX3_sort) rfl lX8_182 iX3_sort vX3_sort (by decide) (by omega) (by exact hg) rfl rfl rfl rfl (Nat.le_of_ble_eq_true rfl) (fun v9 h9 z9 => ?_)
  obtain ⟨rfl, qg, qoff⟩ := z9
  have hl9 := g_srt_len (σ := π.1) cnt
  have hP := hP.grd qoff qg (by have := ok.2.1; omega) (fun q hq => by have := g_srt_lt cnt q hq; have := ok.2.1; omega)
  have hoff := hoff.trans (qoff.wide (a := _) (b := _) (a' := b) (b' := b + 93) (by omega) (by omega))
  obtain ⟨hb, hD, hS, ⟨σt, hDt⟩, ⟨pm, hH⟩, hT, ⟨go, gl, hG, hgl, hgo⟩, ⟨nx, tk, ts, ex, hsc⟩, hR⟩ := id hP
  obtain ⟨τ, hTt, hT0⟩ := id hT
  unfold s_po at hb
  have hd := hD.1
  have hs := hsc.1
  have hk := hH.1
  have ht := hTt.1
  have hg := hG.1
  have hr := hR.1
  have htd := hDt.1
  have hsd := hS.1
  have q1 := hD.2.1
  have q2 := hD.2.2.1
  have q3 := hD.2.2.2.1
  have q4 := hD.2.2.2.2
  have u1 := hDt.2.1
  have u2 := hDt.2.2.1
  have u3 := hDt.2.2.2.1
  have u4 := hDt.2.2.2.2
  rw [ok.1, ok.2.2.1] at hd
  refine g_aload_n dX8_densestItem_11 rfl (by rfl) ?_
  refine g_getf dX8_densestItem_12 fX8_43 (by exact hb) (by omega) (by rfl) ?_
  refine g_callV_e (c_X3_first qg (by omega) (by have := ok.2.1; omega)) dX8_densestItem_15 (mX3_first) rfl lX8_185 iX3_first vX3_first (by decide) (by omega) (by exact qg.1) rfl rfl rfl rfl (Nat.le_of_ble_eq_true rfl) ?_
  refine g_ireturn dX8_densestItem_18 rfl ?_
  exact ⟨rfl, rfl, hP, hoff⟩

theorem c_X8_greedyPlan {h : s_H} {n b : Nat} {π : s_Pl} (hP : s_pl h b π) (hn : b + 93 ≤ n) {cnt cp : Nat} (ok : d_ok π.1 cnt cp) : s_Mt TX8_greedyPlan 0 0 [.ref b] h n (s_rp n (fun v9 h1 => v9 = some (.int (if d_room π.1 cnt < 0 then -1 else v_gp π.1 cnt)) ∧ s_pl h1 b π ∧ s_off h h1 b (b + 93)) s_no) := by
  obtain ⟨hb, hD, hS, ⟨σt, hDt⟩, ⟨pm, hH⟩, hT, ⟨go, gl, hG, hgl, hgo⟩, ⟨nx, tk, ts, ex, hsc⟩, hR⟩ := id hP
  obtain ⟨τ, hTt, hT0⟩ := id hT
  unfold s_po at hb
  have hd := hD.1
  have hs := hsc.1
  have hk := hH.1
  have ht := hTt.1
  have hg := hG.1
  have hr := hR.1
  have htd := hDt.1
  have hsd := hS.1
  have q1 := hD.2.1
  have q2 := hD.2.2.1
  have q3 := hD.2.2.2.1
  have q4 := hD.2.2.2.2
  have u1 := hDt.2.1
  have u2 := hDt.2.2.1
  have u3 := hDt.2.2.2.1
  have u4 := hDt.2.2.2.2
  rw [ok.1, ok.2.2.1] at hd
  have hoff : s_off h h b (b + 93) := s_off.rf
  refine s_Mt_of rfl (by decide) (by exact Nat.le_of_ble_eq_true rfl) ?_
  refine g_aload_n dX8_greedyPlan_0 rfl (by rfl) ?_
  refine g_getf dX8_greedyPlan_1 fX8_12 (by exact hb) (by omega) (by rfl) ?_
  refine g_callV_e (c_X2_room hD (by omega) ok.1 ok.2.1) dX8_greedyPlan_4 (mX2_room) rfl lX8_189 iX2_room vX2_room (by decide) (by omega) (by first | exact hd | exact htd | exact hsd) rfl rfl rfl rfl (Nat.le_of_ble_eq_true rfl) ?_
  refine g_if_ge (tgt := 12) dX8_greedyPlan_7 (by decide) (fun c_7 => ?_) (fun c_7 => ?_)
  · refine g_aload_n dX8_greedyPlan_12 rfl (by rfl) ?_
    refine g_getf dX8_greedyPlan_13 fX8_43 (by exact hb) (by omega) (by rfl) ?_
    refine g_aload_n dX8_greedyPlan_16 rfl (by rfl) ?_
    refine g_getf dX8_greedyPlan_17 fX8_12 (by exact hb) (by omega) (by rfl) ?_
    refine g_callV_p (c_X3_sort hG hD (by omega) (by omega) (by omega) ok.1 ok.2.1) dX8_greedyPlan_20 (mX3_sort) rfl lX8_182 iX3_sort vX3_sort (by decide) (by omega) (by exact hg) rfl rfl rfl rfl (Nat.le_of_ble_eq_true rfl) (fun v9 h9 z9 => ?_)
    obtain ⟨rfl, qg, qoff⟩ := z9
    have hl9 := g_srt_len (σ := π.1) cnt
    have hP := hP.grd qoff qg (by have := ok.2.1; omega) (fun q hq => by have := g_srt_lt cnt q hq; have := ok.2.1; omega)
    have hoff := hoff.trans (qoff.wide (a := _) (b := _) (a' := b) (b' := b + 93) (by omega) (by omega))
    obtain ⟨hb, hD, hS, ⟨σt, hDt⟩, ⟨pm, hH⟩, hT, ⟨go, gl, hG, hgl, hgo⟩, ⟨nx, tk, ts, ex, hsc⟩, hR⟩ := id hP
    obtain ⟨τ, hTt, hT0⟩ := id hT
    unfold s_po at hb
    have hd := hD.1
    have hs := hsc.1
    have hk := hH.1
    have ht := hTt.1
    have hg := hG.1
    have hr := hR.1
    have htd := hDt.1
    have hsd := hS.1
    have q1 := hD.2.1
    have q2 := hD.2.2.1
    have q3 := hD.2.2.2.1
    have q4 := hD.2.2.2.2
    have u1 := hDt.2.1
    have u2 := hDt.2.2.1
    have u3 := hDt.2.2.2.1
    have u4 := hDt.2.2.2.2
    rw [ok.1, ok.2.2.1] at hd
    refine g_aload_n dX8_greedyPlan_23 rfl (by rfl) ?_
    refine g_getf dX8_greedyPlan_24 fX8_43 (by exact hb) (by omega) (by rfl) ?_
    refine g_aload_n dX8_greedyPlan_27 rfl (by rfl) ?_
    refine g_getf dX8_greedyPlan_28 fX8_12 (by exact hb) (by omega) (by rfl) ?_
    refine g_callV_e (c_X3_takeFitting qg hD (by omega) (by omega) ok.1 ok.2.1 (by have := ok.2.1; omega) (fun q hq => by have := g_srt_lt cnt q hq; have := ok.2.1; omega)) dX8_greedyPlan_31 (mX3_takeFitting) rfl lX8_226 iX3_takeFitting vX3_takeFitting (by decide) (by omega) (by exact qg.1) rfl rfl rfl rfl (Nat.le_of_ble_eq_true rfl) ?_
    refine g_ireturn dX8_greedyPlan_34 rfl ?_
    exact ⟨rfl, by rw [if_neg (Int32.not_lt.mpr c_7)]; rfl, hP, hoff⟩
  · refine g_iconst (-1) dX8_greedyPlan_10 (by rfl) ?_
    refine g_ireturn dX8_greedyPlan_11 rfl ?_
    exact ⟨rfl, by rw [if_pos (Int32.not_le.mp c_7)], hP, hoff⟩

theorem c_X8_greedyWeight {h : s_H} {n b : Nat} {π : s_Pl} (hP : s_pl h b π) (hn : b + 93 ≤ n) {cnt cp : Nat} (ok : d_ok π.1 cnt cp) : s_Mt TX8_greedyWeight 0 0 [.ref b] h n (s_rp n (fun v9 h1 => v9 = some (.int (if d_room π.1 cnt < 0 then -1 else d_tot (d_wt π.1) (v_gp π.1 cnt) cnt)) ∧ s_pl h1 b π ∧ s_off h h1 b (b + 93)) s_no) := by
  obtain ⟨hb, hD, hS, ⟨σt, hDt⟩, ⟨pm, hH⟩, hT, ⟨go, gl, hG, hgl, hgo⟩, ⟨nx, tk, ts, ex, hsc⟩, hR⟩ := id hP
  obtain ⟨τ, hTt, hT0⟩ := id hT
  unfold s_po at hb
  have hd := hD.1
  have hs := hsc.1
  have hk := hH.1
  have ht := hTt.1
  have hg := hG.1
  have hr := hR.1
  have htd := hDt.1
  have hsd := hS.1
  have q1 := hD.2.1
  have q2 := hD.2.2.1
  have q3 := hD.2.2.2.1
  have q4 := hD.2.2.2.2
  have u1 := hDt.2.1
  have u2 := hDt.2.2.1
  have u3 := hDt.2.2.2.1
  have u4 := hDt.2.2.2.2
  rw [ok.1, ok.2.2.1] at hd
  have hoff : s_off h h b (b + 93) := s_off.rf
  refine s_Mt_of rfl (by decide) (by exact Nat.le_of_ble_eq_true rfl) ?_
  refine g_aload_n dX8_greedyWeight_0 rfl (by rfl) ?_
  refine g_getf dX8_greedyWeight_1 fX8_12 (by exact hb) (by omega) (by rfl) ?_
  refine g_callV_e (c_X2_room hD (by omega) ok.1 ok.2.1) dX8_greedyWeight_4 (mX2_room) rfl lX8_189 iX2_room vX2_room (by decide) (by omega) (by first | exact hd | exact htd | exact hsd) rfl rfl rfl rfl (Nat.le_of_ble_eq_true rfl) ?_
  refine g_if_ge (tgt := 12) dX8_greedyWeight_7 (by decide) (fun c_7 => ?_) (fun c_7 => ?_)
  · refine g_aload_n dX8_greedyWeight_12 rfl (by rfl) ?_
    refine g_getf dX8_greedyWeight_13 fX8_43 (by exact hb) (by omega) (by rfl) ?_
    refine g_aload_n dX8_greedyWeight_16 rfl (by rfl) ?_
    refine g_getf dX8_greedyWeight_17 fX8_12 (by exact hb) (by omega) (by rfl) ?_
    refine g_callV_p (c_X3_sort hG hD (by omega) (by omega) (by omega) ok.1 ok.2.1) dX8_greedyWeight_20 (mX3_sort) rfl lX8_182 iX3_sort vX3_sort (by decide) (by omega) (by exact hg) rfl rfl rfl rfl (Nat.le_of_ble_eq_true rfl) (fun v9 h9 z9 => ?_)
    obtain ⟨rfl, qg, qoff⟩ := z9
    have hl9 := g_srt_len (σ := π.1) cnt
    have hP := hP.grd qoff qg (by have := ok.2.1; omega) (fun q hq => by have := g_srt_lt cnt q hq; have := ok.2.1; omega)
    have hoff := hoff.trans (qoff.wide (a := _) (b := _) (a' := b) (b' := b + 93) (by omega) (by omega))
    obtain ⟨hb, hD, hS, ⟨σt, hDt⟩, ⟨pm, hH⟩, hT, ⟨go, gl, hG, hgl, hgo⟩, ⟨nx, tk, ts, ex, hsc⟩, hR⟩ := id hP
    obtain ⟨τ, hTt, hT0⟩ := id hT
    unfold s_po at hb
    have hd := hD.1
    have hs := hsc.1
    have hk := hH.1
    have ht := hTt.1
    have hg := hG.1
    have hr := hR.1
    have htd := hDt.1
    have hsd := hS.1
    have q1 := hD.2.1
    have q2 := hD.2.2.1
    have q3 := hD.2.2.2.1
    have q4 := hD.2.2.2.2
    have u1 := hDt.2.1
    have u2 := hDt.2.2.1
    have u3 := hDt.2.2.2.1
    have u4 := hDt.2.2.2.2
    rw [ok.1, ok.2.2.1] at hd
    refine g_aload_n dX8_greedyWeight_23 rfl (by rfl) ?_
    refine g_getf dX8_greedyWeight_24 fX8_12 (by exact hb) (by omega) (by rfl) ?_
    refine g_aload_n dX8_greedyWeight_27 rfl (by rfl) ?_
    refine g_getf dX8_greedyWeight_28 fX8_43 (by exact hb) (by omega) (by rfl) ?_
    refine g_aload_n dX8_greedyWeight_31 rfl (by rfl) ?_
    refine g_getf dX8_greedyWeight_32 fX8_12 (by exact hb) (by omega) (by rfl) ?_
    refine g_callV_e (c_X3_takeFitting qg hD (by omega) (by omega) ok.1 ok.2.1 (by have := ok.2.1; omega) (fun q hq => by have := g_srt_lt cnt q hq; have := ok.2.1; omega)) dX8_greedyWeight_35 (mX3_takeFitting) rfl lX8_226 iX3_takeFitting vX3_takeFitting (by decide) (by omega) (by exact qg.1) rfl rfl rfl rfl (Nat.le_of_ble_eq_true rfl) ?_
    refine g_callV_e (c_X2_totalWeight hD (by omega) ok.1 ok.2.1 _) dX8_greedyWeight_38 (mX2_totalWeight) rfl lX8_229 iX2_totalWeight vX2_totalWeight (by decide) (by omega) (by first | exact hd | exact htd | exact hsd) rfl rfl rfl rfl (Nat.le_of_ble_eq_true rfl) ?_
    refine g_ireturn dX8_greedyWeight_41 rfl ?_
    exact ⟨rfl, by rw [if_neg (Int32.not_lt.mpr c_7)]; rfl, hP, hoff⟩
  · refine g_iconst (-1) dX8_greedyWeight_10 (by rfl) ?_
    refine g_ireturn dX8_greedyWeight_11 rfl ?_
    exact ⟨rfl, by rw [if_pos (Int32.not_le.mp c_7)], hP, hoff⟩

theorem c_X8_upperBound {h : s_H} {n b : Nat} {π : s_Pl} (hP : s_pl h b π) (hn : b + 93 ≤ n) {cnt cp : Nat} (ok : d_ok π.1 cnt cp) : s_Mt TX8_upperBound 0 0 [.ref b] h n (s_rp n (fun v9 h1 => v9 = some (.int (if d_room π.1 cnt < 0 then -1 else v_bd π.1 cnt)) ∧ s_pl h1 b π ∧ s_off h h1 b (b + 93)) s_no) := by
  obtain ⟨hb, hD, hS, ⟨σt, hDt⟩, ⟨pm, hH⟩, hT, ⟨go, gl, hG, hgl, hgo⟩, ⟨nx, tk, ts, ex, hsc⟩, hR⟩ := id hP
  obtain ⟨τ, hTt, hT0⟩ := id hT
  unfold s_po at hb
  have hd := hD.1
  have hs := hsc.1
  have hk := hH.1
  have ht := hTt.1
  have hg := hG.1
  have hr := hR.1
  have htd := hDt.1
  have hsd := hS.1
  have q1 := hD.2.1
  have q2 := hD.2.2.1
  have q3 := hD.2.2.2.1
  have q4 := hD.2.2.2.2
  have u1 := hDt.2.1
  have u2 := hDt.2.2.1
  have u3 := hDt.2.2.2.1
  have u4 := hDt.2.2.2.2
  rw [ok.1, ok.2.2.1] at hd
  have hoff : s_off h h b (b + 93) := s_off.rf
  refine s_Mt_of rfl (by decide) (by exact Nat.le_of_ble_eq_true rfl) ?_
  refine g_aload_n dX8_upperBound_0 rfl (by rfl) ?_
  refine g_getf dX8_upperBound_1 fX8_12 (by exact hb) (by omega) (by rfl) ?_
  refine g_callV_e (c_X2_room hD (by omega) ok.1 ok.2.1) dX8_upperBound_4 (mX2_room) rfl lX8_189 iX2_room vX2_room (by decide) (by omega) (by first | exact hd | exact htd | exact hsd) rfl rfl rfl rfl (Nat.le_of_ble_eq_true rfl) ?_
  refine g_if_ge (tgt := 12) dX8_upperBound_7 (by decide) (fun c_7 => ?_) (fun c_7 => ?_)
  · refine g_aload_n dX8_upperBound_12 rfl (by rfl) ?_
    refine g_getf dX8_upperBound_13 fX8_43 (by exact hb) (by omega) (by rfl) ?_
    refine g_aload_n dX8_upperBound_16 rfl (by rfl) ?_
    refine g_getf dX8_upperBound_17 fX8_12 (by exact hb) (by omega) (by rfl) ?_
    refine g_callV_p (c_X3_sort hG hD (by omega) (by omega) (by omega) ok.1 ok.2.1) dX8_upperBound_20 (mX3_sort) rfl lX8_182 iX3_sort vX3_sort (by decide) (by omega) (by exact hg) rfl rfl rfl rfl (Nat.le_of_ble_eq_true rfl) (fun v9 h9 z9 => ?_)
    obtain ⟨rfl, qg, qoff⟩ := z9
    have hl9 := g_srt_len (σ := π.1) cnt
    have hP := hP.grd qoff qg (by have := ok.2.1; omega) (fun q hq => by have := g_srt_lt cnt q hq; have := ok.2.1; omega)
    have hoff := hoff.trans (qoff.wide (a := _) (b := _) (a' := b) (b' := b + 93) (by omega) (by omega))
    obtain ⟨hb, hD, hS, ⟨σt, hDt⟩, ⟨pm, hH⟩, hT, ⟨go, gl, hG, hgl, hgo⟩, ⟨nx, tk, ts, ex, hsc⟩, hR⟩ := id hP
    obtain ⟨τ, hTt, hT0⟩ := id hT
    unfold s_po at hb
    have hd := hD.1
    have hs := hsc.1
    have hk := hH.1
    have ht := hTt.1
    have hg := hG.1
    have hr := hR.1
    have htd := hDt.1
    have hsd := hS.1
    have q1 := hD.2.1
    have q2 := hD.2.2.1
    have q3 := hD.2.2.2.1
    have q4 := hD.2.2.2.2
    have u1 := hDt.2.1
    have u2 := hDt.2.2.1
    have u3 := hDt.2.2.2.1
    have u4 := hDt.2.2.2.2
    rw [ok.1, ok.2.2.1] at hd
    refine g_aload_n dX8_upperBound_23 rfl (by rfl) ?_
    refine g_getf dX8_upperBound_24 fX8_43 (by exact hb) (by omega) (by rfl) ?_
    refine g_aload_n dX8_upperBound_27 rfl (by rfl) ?_
    refine g_getf dX8_upperBound_28 fX8_12 (by exact hb) (by omega) (by rfl) ?_
    refine g_callV_e (c_X3_bound qg hD (by omega) (by omega) ok.1 ok.2.1 (by have := ok.2.1; omega) (fun q hq => by have := g_srt_lt cnt q hq; have := ok.2.1; omega)) dX8_upperBound_31 (mX3_bound) rfl lX8_232 iX3_bound vX3_bound (by decide) (by omega) (by exact qg.1) rfl rfl rfl rfl (Nat.le_of_ble_eq_true rfl) ?_
    refine g_ireturn dX8_upperBound_34 rfl ?_
    exact ⟨rfl, by rw [if_neg (Int32.not_lt.mpr c_7)]; rfl, hP, hoff⟩
  · refine g_iconst (-1) dX8_upperBound_10 (by rfl) ?_
    refine g_ireturn dX8_upperBound_11 rfl ?_
    exact ⟨rfl, by rw [if_pos (Int32.not_le.mp c_7)], hP, hoff⟩

theorem c_X8_optimalPlans {h : s_H} {n b : Nat} {π : s_Pl} (hP : s_pl h b π) (hn : b + 93 ≤ n) {cnt cp : Nat} (ok : d_ok π.1 cnt cp) : s_Mt TX8_optimalPlans 0 0 [.ref b] h n (s_rp n (fun v9 h1 => (∃ τ : s_Tb, (∀ c, c ≤ 100 → τ.1 0 c = 0) ∧ v9 = some (.int (if d_room π.1 cnt < 0 then 0 else t_ow (t_build π.1 100 τ cnt) π.1 (d_room π.1 cnt).toNatClampNeg (t_build π.1 100 τ cnt).2.2.2.1 (d_room π.1 cnt).toNatClampNeg))) ∧ s_pl h1 b π ∧ s_off h h1 b (b + 93)) s_no) := by
  obtain ⟨hb, hD, hS, ⟨σt, hDt⟩, ⟨pm, hH⟩, hT, ⟨go, gl, hG, hgl, hgo⟩, ⟨nx, tk, ts, ex, hsc⟩, hR⟩ := id hP
  obtain ⟨τ, hTt, hT0⟩ := id hT
  unfold s_po at hb
  have hd := hD.1
  have hs := hsc.1
  have hk := hH.1
  have ht := hTt.1
  have hg := hG.1
  have hr := hR.1
  have htd := hDt.1
  have hsd := hS.1
  have q1 := hD.2.1
  have q2 := hD.2.2.1
  have q3 := hD.2.2.2.1
  have q4 := hD.2.2.2.2
  have u1 := hDt.2.1
  have u2 := hDt.2.2.1
  have u3 := hDt.2.2.2.1
  have u4 := hDt.2.2.2.2
  rw [ok.1, ok.2.2.1] at hd
  have hoff : s_off h h b (b + 93) := s_off.rf
  refine s_Mt_of rfl (by decide) (by exact Nat.le_of_ble_eq_true rfl) ?_
  refine g_aload_n dX8_optimalPlans_0 rfl (by rfl) ?_
  refine g_getf dX8_optimalPlans_1 fX8_12 (by exact hb) (by omega) (by rfl) ?_
  refine g_callV_e (c_X2_room hD (by omega) ok.1 ok.2.1) dX8_optimalPlans_4 (mX2_room) rfl lX8_189 iX2_room vX2_room (by decide) (by omega) (by first | exact hd | exact htd | exact hsd) rfl rfl rfl rfl (Nat.le_of_ble_eq_true rfl) ?_
  refine g_if_ge (tgt := 12) dX8_optimalPlans_7 (by decide) (fun c_7 => ?_) (fun c_7 => ?_)
  · obtain ⟨rm, hrm, hrmc⟩ := u_rm ok ok.2.2.2.1 (by rw [← d_room_eq ok]; exact Int32.not_lt.mpr c_7)
    rw [← d_room_eq ok] at hrm
    have hcp9 := ok.2.2.2.1
    refine g_aload_n dX8_optimalPlans_12 rfl (by rfl) ?_
    refine g_getf dX8_optimalPlans_13 fX8_36 (by exact hb) (by omega) (by rfl) ?_
    refine g_aload_n dX8_optimalPlans_16 rfl (by rfl) ?_
    refine g_getf dX8_optimalPlans_17 fX8_12 (by exact hb) (by omega) (by rfl) ?_
    refine g_bipush 100 dX8_optimalPlans_20 (by rfl) ?_
    refine g_callV_p (c_X7_build (cnt := cnt) (lc := 100) hTt hD (by omega) (by omega) (by omega) ok.1 ok.2.1 ok.sz (by omega)) dX8_optimalPlans_22 (mX7_build) rfl lX8_205 iX7_build vX7_build (by decide) (by omega) (by exact ht) rfl rfl rfl rfl (Nat.le_of_ble_eq_true rfl) (fun v9 h9 z9 => ?_)
    obtain ⟨rfl, qtab, qoff⟩ := z9
    have hz9 := hT0
    have hP := hP.tab qoff (u_t0 qtab hT0)
    have hoff := hoff.trans (qoff.wide (a := _) (b := _) (a' := b) (b' := b + 93) (by omega) (by omega))
    obtain ⟨hb, hD, hS, ⟨σt, hDt⟩, ⟨pm, hH⟩, hT, ⟨go, gl, hG, hgl, hgo⟩, ⟨nx, tk, ts, ex, hsc⟩, hR⟩ := id hP
    obtain ⟨τ, hTt, hT0⟩ := id hT
    unfold s_po at hb
    have hd := hD.1
    have hs := hsc.1
    have hk := hH.1
    have ht := hTt.1
    have hg := hG.1
    have hr := hR.1
    have htd := hDt.1
    have hsd := hS.1
    have q1 := hD.2.1
    have q2 := hD.2.2.1
    have q3 := hD.2.2.2.1
    have q4 := hD.2.2.2.2
    have u1 := hDt.2.1
    have u2 := hDt.2.2.1
    have u3 := hDt.2.2.2.1
    have u4 := hDt.2.2.2.2
    rw [ok.1, ok.2.2.1] at hd
    refine g_aload_n dX8_optimalPlans_25 rfl (by rfl) ?_
    refine g_getf dX8_optimalPlans_26 fX8_36 (by exact hb) (by omega) (by rfl) ?_
    refine g_aload_n dX8_optimalPlans_29 rfl (by rfl) ?_
    refine g_getf dX8_optimalPlans_30 fX8_12 (by exact hb) (by omega) (by rfl) ?_
    refine g_callV_p (c_X7_countOptimal (rm := rm) qtab hD (by omega) (by omega) (by omega) ok.1 ok.2.1 (by have := u_row_lt ok (u_z hz9 (Nat.le_refl _)); omega) hrm (by omega) (u_items ok (u_z hz9 (Nat.le_refl _)))) dX8_optimalPlans_33 (mX7_countOptimal) rfl lX8_209 iX7_countOptimal vX7_countOptimal (by decide) (by omega) (by exact qtab.1) rfl rfl rfl rfl (Nat.le_of_ble_eq_true rfl) (fun v9 h9 z9 => ?_)
    obtain ⟨rfl, qtab2, qoff⟩ := z9
    have hP := hP.tab qoff ⟨_, qtab2, fun c hc => (u_row0 cnt).trans (hz9 c hc)⟩
    have hoff := hoff.trans (qoff.wide (a := _) (b := _) (a' := b) (b' := b + 93) (by omega) (by omega))
    refine g_ireturn dX8_optimalPlans_36 rfl ?_
    exact ⟨rfl, ⟨_, hz9, by rw [if_neg (Int32.not_lt.mpr c_7), hrm, nI_clamp (by omega)]⟩, hP, hoff⟩
  · refine g_iconst 0 dX8_optimalPlans_10 (by rfl) ?_
    refine g_ireturn dX8_optimalPlans_11 rfl ?_
    exact ⟨rfl, ⟨_, hT0, by rw [if_pos (Int32.not_le.mp c_7)]⟩, hP, hoff⟩

theorem c_X8_firstCapacity {h : s_H} {n b : Nat} {π : s_Pl} (hP : s_pl h b π) (hn : b + 93 ≤ n) {cnt cp : Nat} (ok : d_ok π.1 cnt cp) (w : Int32) {lo : Nat} (hlo : lo ≤ 101) : s_Mt TX8_firstCapacity 0 0 [.ref b, .int (nI lo), .int w] h n (s_rp n (fun v9 h1 => v9 = some (.int (v_fc π.1 cnt w (101 - lo) lo)) ∧ s_pl h1 b π ∧ s_off h h1 b (b + 93)) s_no) := by
  obtain ⟨hb, hD, hS, ⟨σt, hDt⟩, ⟨pm, hH⟩, hT, ⟨go, gl, hG, hgl, hgo⟩, ⟨nx, tk, ts, ex, hsc⟩, hR⟩ := id hP
  obtain ⟨τ, hTt, hT0⟩ := id hT
  unfold s_po at hb
  have hd := hD.1
  have hs := hsc.1
  have hk := hH.1
  have ht := hTt.1
  have hg := hG.1
  have hr := hR.1
  have htd := hDt.1
  have hsd := hS.1
  have q1 := hD.2.1
  have q2 := hD.2.2.1
  have q3 := hD.2.2.2.1
  have q4 := hD.2.2.2.2
  have u1 := hDt.2.1
  have u2 := hDt.2.2.1
  have u3 := hDt.2.2.2.1
  have u4 := hDt.2.2.2.2
  rw [ok.1, ok.2.2.1] at hd
  have hoff : s_off h h b (b + 93) := s_off.rf
  refine s_Mt_of rfl (by decide) (by exact Nat.le_of_ble_eq_true rfl) ?_
  refine g_aload_n dX8_firstCapacity_0 rfl (by rfl) ?_
  refine g_getf dX8_firstCapacity_1 fX8_36 (by exact hb) (by omega) (by rfl) ?_
  refine g_aload_n dX8_firstCapacity_4 rfl (by rfl) ?_
  refine g_getf dX8_firstCapacity_5 fX8_12 (by exact hb) (by omega) (by rfl) ?_
  refine g_bipush 100 dX8_firstCapacity_8 (by rfl) ?_
  refine g_callV_p (c_X7_build (cnt := cnt) (lc := 100) hTt hD (by omega) (by omega) (by omega) ok.1 ok.2.1 ok.sz (by omega)) dX8_firstCapacity_10 (mX7_build) rfl lX8_205 iX7_build vX7_build (by decide) (by omega) (by exact ht) rfl rfl rfl rfl (Nat.le_of_ble_eq_true rfl) (fun v9 h9 z9 => ?_)
  obtain ⟨rfl, qtab, qoff⟩ := z9
  have hz9 := hT0
  have hP := hP.tab qoff (u_t0 qtab hT0)
  have hoff := hoff.trans (qoff.wide (a := _) (b := _) (a' := b) (b' := b + 93) (by omega) (by omega))
  obtain ⟨hb, hD, hS, ⟨σt, hDt⟩, ⟨pm, hH⟩, hT, ⟨go, gl, hG, hgl, hgo⟩, ⟨nx, tk, ts, ex, hsc⟩, hR⟩ := id hP
  obtain ⟨τ, hTt, hT0⟩ := id hT
  unfold s_po at hb
  have hd := hD.1
  have hs := hsc.1
  have hk := hH.1
  have ht := hTt.1
  have hg := hG.1
  have hr := hR.1
  have htd := hDt.1
  have hsd := hS.1
  have q1 := hD.2.1
  have q2 := hD.2.2.1
  have q3 := hD.2.2.2.1
  have q4 := hD.2.2.2.2
  have u1 := hDt.2.1
  have u2 := hDt.2.2.1
  have u3 := hDt.2.2.2.1
  have u4 := hDt.2.2.2.2
  rw [ok.1, ok.2.2.1] at hd
  have ht9 := qtab.1
  have loop : ∀ (k c : Nat), c + k = 101 → v_fc π.1 cnt w (101 - lo) lo = v_fc π.1 cnt w k c → s_G TX8_firstCapacity (s_rp n (fun v9 h1 => v9 = some (.int (v_fc π.1 cnt w (101 - lo) lo)) ∧ s_pl h1 b π ∧ s_off h h1 b (b + 93)) s_no) 15 (s_lvs [(0, .ref b), (1, .int (nI lo)), (2, .int w), (3, .int (nI c))]) [] h9 n 0 0 := by
    intro k
    induction k with
    | zero =>
      intro c hk hfc
      obtain rfl : c = 101 := by omega
      refine g_iload_n dX8_firstCapacity_15 rfl (by rfl) ?_
      refine g_bipush 100 dX8_firstCapacity_16 (by rfl) ?_
      refine g_icmp_gt (tgt := 44) dX8_firstCapacity_18 (by decide) (fun _ => ?_) (fun c_18 => absurd (show (100 : Int32) < nI 101 by decide) c_18)
      refine g_iconst (-1) dX8_firstCapacity_44 (by rfl) ?_
      refine g_ireturn dX8_firstCapacity_45 rfl ?_
      exact ⟨rfl, by rw [hfc]; rfl, hP, hoff⟩
    | succ k ih =>
      intro c hk hfc
      refine g_iload_n dX8_firstCapacity_15 rfl (by rfl) ?_
      refine g_bipush 100 dX8_firstCapacity_16 (by rfl) ?_
      refine g_icmp_gt (tgt := 44) dX8_firstCapacity_18 (by decide) (fun c_18 => absurd c_18 (Int32.not_lt.mpr (show nI c ≤ nI 100 from nI_le (by omega) (by omega)))) (fun _ => ?_)
      refine g_aload_n dX8_firstCapacity_21 rfl (by rfl) ?_
      refine g_getf dX8_firstCapacity_22 fX8_36 (by exact hb) (by omega) (by rfl) ?_
      refine g_iload_n dX8_firstCapacity_25 rfl (by rfl) ?_
      refine g_callV_e (c_X7_bestFor qtab (by omega) (u_row_lt ok (u_z hz9 (Nat.le_refl _))) (nI c) (u_hzb ok (u_z hz9 (Nat.le_refl _)) (by omega))) dX8_firstCapacity_26 (mX7_bestFor) rfl lX8_213 iX7_bestFor vX7_bestFor (by decide) (by omega) (by exact qtab.1) rfl rfl rfl rfl (Nat.le_of_ble_eq_true rfl) ?_
      refine g_callS_e (c_X8_rankWeight _) dX8_firstCapacity_29 (mX8_rankWeight) rfl lX8_192 sX8_rankWeight (by decide) rfl rfl (Nat.le_of_ble_eq_true rfl) ?_
      refine g_iload_n dX8_firstCapacity_32 rfl (by rfl) ?_
      refine g_icmp_lt (tgt := 38) dX8_firstCapacity_33 (by decide) (fun c_33 => ?_) (fun c_33 => ?_)
      · have hbf := u_best_of (cap := c) ok (u_z hz9 (Nat.le_refl _)) (by omega) (Nat.le_refl _)
        rw [hbf] at c_33
        refine g_iinc (nI (c + 1)) dX8_firstCapacity_38 (by rfl) (nI_inc c) ?_
        refine g_goto (tgt := 15) dX8_firstCapacity_41 (by decide) ?_
        refine g_lv (ih (c + 1) (by omega) ?_) ⟨rfl, rfl, rfl, rfl, trivial⟩
        rw [hfc]
        simp only [v_fc, if_neg (Int32.not_le.mpr c_33)]
      · have hbf := u_best_of (cap := c) ok (u_z hz9 (Nat.le_refl _)) (by omega) (Nat.le_refl _)
        rw [hbf] at c_33
        refine g_iload_n dX8_firstCapacity_36 rfl (by rfl) ?_
        refine g_ireturn dX8_firstCapacity_37 rfl ?_
        refine ⟨rfl, ?_, hP, hoff⟩
        rw [hfc]
        simp only [v_fc, if_pos (Int32.not_lt.mp c_33)]

  refine g_iload_n dX8_firstCapacity_13 rfl (by rfl) ?_
  refine g_istore_n dX8_firstCapacity_14 rfl (by decide) ?_
  exact g_lv (loop (101 - lo) lo (by omega) rfl) ⟨rfl, rfl, rfl, rfl, trivial⟩

theorem c_X8_capacityFor {h : s_H} {n b : Nat} {π : s_Pl} (hP : s_pl h b π) (hn : b + 93 ≤ n) {cnt cp : Nat} (ok : d_ok π.1 cnt cp) (w : Int32) : s_Mt TX8_capacityFor 0 0 [.ref b, .int w] h n (s_rp n (fun v9 h1 => v9 = some (.int (v_fc π.1 cnt (if w < 0 then 0 else w) 101 0)) ∧ s_pl h1 b π ∧ s_off h h1 b (b + 93)) s_no) := by
  obtain ⟨hb, hD, hS, ⟨σt, hDt⟩, ⟨pm, hH⟩, hT, ⟨go, gl, hG, hgl, hgo⟩, ⟨nx, tk, ts, ex, hsc⟩, hR⟩ := id hP
  obtain ⟨τ, hTt, hT0⟩ := id hT
  unfold s_po at hb
  have hd := hD.1
  have hs := hsc.1
  have hk := hH.1
  have ht := hTt.1
  have hg := hG.1
  have hr := hR.1
  have htd := hDt.1
  have hsd := hS.1
  have q1 := hD.2.1
  have q2 := hD.2.2.1
  have q3 := hD.2.2.2.1
  have q4 := hD.2.2.2.2
  have u1 := hDt.2.1
  have u2 := hDt.2.2.1
  have u3 := hDt.2.2.2.1
  have u4 := hDt.2.2.2.2
  rw [ok.1, ok.2.2.1] at hd
  have hoff : s_off h h b (b + 93) := s_off.rf
  refine s_Mt_of rfl (by decide) (by exact Nat.le_of_ble_eq_true rfl) ?_
  refine g_aload_n dX8_capacityFor_0 rfl (by rfl) ?_
  refine g_iconst 0 dX8_capacityFor_1 (by rfl) ?_
  refine g_iload_n dX8_capacityFor_2 rfl (by rfl) ?_
  refine g_if_ge (tgt := 10) dX8_capacityFor_3 (by decide) (fun c_3 => ?_) (fun c_3 => ?_)
  · refine g_iload_n dX8_capacityFor_10 rfl (by rfl) ?_
    refine g_callV_p (c_X8_firstCapacity hP hn ok _ (lo := 0) (by omega)) dX8_capacityFor_11 (mX8_firstCapacity) rfl lX8_217 iX8_firstCapacity vX8_firstCapacity (by decide) (by omega) (by exact hb) rfl rfl rfl rfl (Nat.le_of_ble_eq_true rfl) (fun v9 h9 z9 => ?_)
    obtain ⟨rfl, hP, qoff⟩ := z9
    have hoff := hoff.trans (qoff.wide (a := _) (b := _) (a' := b) (b' := b + 93) (by omega) (by omega))
    refine g_ireturn dX8_capacityFor_14 rfl ?_
    exact ⟨rfl, s_some (by first | rw [if_pos (Int32.not_le.mp c_3)] | rw [if_neg (Int32.not_lt.mpr c_3)]), hP, hoff⟩
  · refine g_iconst 0 dX8_capacityFor_6 (by rfl) ?_
    refine g_goto (tgt := 11) dX8_capacityFor_7 (by decide) ?_
    refine g_callV_p (c_X8_firstCapacity hP hn ok _ (lo := 0) (by omega)) dX8_capacityFor_11 (mX8_firstCapacity) rfl lX8_217 iX8_firstCapacity vX8_firstCapacity (by decide) (by omega) (by exact hb) rfl rfl rfl rfl (Nat.le_of_ble_eq_true rfl) (fun v9 h9 z9 => ?_)
    obtain ⟨rfl, hP, qoff⟩ := z9
    have hoff := hoff.trans (qoff.wide (a := _) (b := _) (a' := b) (b' := b + 93) (by omega) (by omega))
    refine g_ireturn dX8_capacityFor_14 rfl ?_
    exact ⟨rfl, s_some (by first | rw [if_pos (Int32.not_le.mp c_3)] | rw [if_neg (Int32.not_lt.mpr c_3)]), hP, hoff⟩

theorem c_X8_nextStep {h : s_H} {n b : Nat} {π : s_Pl} (hP : s_pl h b π) (hn : b + 93 ≤ n) {cnt cp : Nat} (ok : d_ok π.1 cnt cp) : s_Mt TX8_nextStep 0 0 [.ref b] h n (s_rp n (fun v9 h1 => v9 = some (.int (v_fc π.1 cnt (r_wt (u_best π.1 cnt cp) + 1) (100 - cp) (cp + 1))) ∧ s_pl h1 b π ∧ s_off h h1 b (b + 93)) s_no) := by
  obtain ⟨hb, hD, hS, ⟨σt, hDt⟩, ⟨pm, hH⟩, hT, ⟨go, gl, hG, hgl, hgo⟩, ⟨nx, tk, ts, ex, hsc⟩, hR⟩ := id hP
  obtain ⟨τ, hTt, hT0⟩ := id hT
  unfold s_po at hb
  have hd := hD.1
  have hs := hsc.1
  have hk := hH.1
  have ht := hTt.1
  have hg := hG.1
  have hr := hR.1
  have htd := hDt.1
  have hsd := hS.1
  have q1 := hD.2.1
  have q2 := hD.2.2.1
  have q3 := hD.2.2.2.1
  have q4 := hD.2.2.2.2
  have u1 := hDt.2.1
  have u2 := hDt.2.2.1
  have u3 := hDt.2.2.2.1
  have u4 := hDt.2.2.2.2
  rw [ok.1, ok.2.2.1] at hd
  have hoff : s_off h h b (b + 93) := s_off.rf
  refine s_Mt_of rfl (by decide) (by exact Nat.le_of_ble_eq_true rfl) ?_
  refine g_aload_n dX8_nextStep_0 rfl (by rfl) ?_
  refine g_aload_n dX8_nextStep_1 rfl (by rfl) ?_
  refine g_getf dX8_nextStep_2 fX8_12 (by exact hb) (by omega) (by rfl) ?_
  refine g_getf dX8_nextStep_5 fX8_118 (by first | exact hd | exact htd | exact hsd) (by omega) (by rfl) ?_
  refine g_iconst 1 dX8_nextStep_8 (by rfl) ?_
  refine g_iadd dX8_nextStep_9 ?_
  rw [nI_1]
  refine g_aload_n dX8_nextStep_10 rfl (by rfl) ?_
  refine g_aload_n dX8_nextStep_11 rfl (by rfl) ?_
  refine g_getf dX8_nextStep_12 fX8_12 (by exact hb) (by omega) (by rfl) ?_
  refine g_callV_p (c_X8_bestRank hP hn hD ok (by omega)) dX8_nextStep_15 (mX8_bestRank) rfl lX8_121 iX8_bestRank vX8_bestRank (by decide) (by omega) (by exact hb) rfl rfl rfl rfl (Nat.le_of_ble_eq_true rfl) (fun v9 h9 z9 => ?_)
  obtain ⟨rfl, ⟨τ9, hz9, qtab⟩, qoff⟩ := z9
  have hP := hP.tab qoff (u_t0 qtab hz9)
  have hoff := hoff.trans (qoff.wide (a := _) (b := _) (a' := b) (b' := b + 93) (by omega) (by omega))
  obtain ⟨hb, hD, hS, ⟨σt, hDt⟩, ⟨pm, hH⟩, hT, ⟨go, gl, hG, hgl, hgo⟩, ⟨nx, tk, ts, ex, hsc⟩, hR⟩ := id hP
  obtain ⟨τ, hTt, hT0⟩ := id hT
  unfold s_po at hb
  have hd := hD.1
  have hs := hsc.1
  have hk := hH.1
  have ht := hTt.1
  have hg := hG.1
  have hr := hR.1
  have htd := hDt.1
  have hsd := hS.1
  have q1 := hD.2.1
  have q2 := hD.2.2.1
  have q3 := hD.2.2.2.1
  have q4 := hD.2.2.2.2
  have u1 := hDt.2.1
  have u2 := hDt.2.2.1
  have u3 := hDt.2.2.2.1
  have u4 := hDt.2.2.2.2
  rw [ok.1, ok.2.2.1] at hd
  refine g_callS_e (c_X8_rankWeight _) dX8_nextStep_18 (mX8_rankWeight) rfl lX8_192 sX8_rankWeight (by decide) rfl rfl (Nat.le_of_ble_eq_true rfl) ?_
  refine g_iconst 1 dX8_nextStep_21 (by rfl) ?_
  refine g_iadd dX8_nextStep_22 ?_
  refine g_callV_p (c_X8_firstCapacity hP hn ok _ (lo := cp + 1) (by have := ok.2.2.2.1; omega)) dX8_nextStep_23 (mX8_firstCapacity) rfl lX8_217 iX8_firstCapacity vX8_firstCapacity (by decide) (by omega) (by exact hb) rfl rfl rfl rfl (Nat.le_of_ble_eq_true rfl) (fun v9 h9 z9 => ?_)
  obtain ⟨rfl, hP, qoff⟩ := z9
  have hoff := hoff.trans (qoff.wide (a := _) (b := _) (a' := b) (b' := b + 93) (by omega) (by omega))
  refine g_ireturn dX8_nextStep_26 rfl ?_
  exact ⟨rfl, s_some (by congr 1; omega), hP, hoff⟩

theorem c_X8_steps {h : s_H} {n b : Nat} {π : s_Pl} (hP : s_pl h b π) (hn : b + 93 ≤ n) {cnt cp : Nat} (ok : d_ok π.1 cnt cp) : s_Mt TX8_steps 0 0 [.ref b] h n (s_rp n (fun v9 h1 => v9 = some (.int (nI (v_sp π.1 cnt 100))) ∧ s_pl h1 b π ∧ s_off h h1 b (b + 93)) s_no) := by
  obtain ⟨hb, hD, hS, ⟨σt, hDt⟩, ⟨pm, hH⟩, hT, ⟨go, gl, hG, hgl, hgo⟩, ⟨nx, tk, ts, ex, hsc⟩, hR⟩ := id hP
  obtain ⟨τ, hTt, hT0⟩ := id hT
  unfold s_po at hb
  have hd := hD.1
  have hs := hsc.1
  have hk := hH.1
  have ht := hTt.1
  have hg := hG.1
  have hr := hR.1
  have htd := hDt.1
  have hsd := hS.1
  have q1 := hD.2.1
  have q2 := hD.2.2.1
  have q3 := hD.2.2.2.1
  have q4 := hD.2.2.2.2
  have u1 := hDt.2.1
  have u2 := hDt.2.2.1
  have u3 := hDt.2.2.2.1
  have u4 := hDt.2.2.2.2
  rw [ok.1, ok.2.2.1] at hd
  have hoff : s_off h h b (b + 93) := s_off.rf
  refine s_Mt_of rfl (by decide) (by exact Nat.le_of_ble_eq_true rfl) ?_
  refine g_aload_n dX8_steps_0 rfl (by rfl) ?_
  refine g_getf dX8_steps_1 fX8_36 (by exact hb) (by omega) (by rfl) ?_
  refine g_aload_n dX8_steps_4 rfl (by rfl) ?_
  refine g_getf dX8_steps_5 fX8_12 (by exact hb) (by omega) (by rfl) ?_
  refine g_bipush 100 dX8_steps_8 (by rfl) ?_
  refine g_callV_p (c_X7_build (cnt := cnt) (lc := 100) hTt hD (by omega) (by omega) (by omega) ok.1 ok.2.1 ok.sz (by omega)) dX8_steps_10 (mX7_build) rfl lX8_205 iX7_build vX7_build (by decide) (by omega) (by exact ht) rfl rfl rfl rfl (Nat.le_of_ble_eq_true rfl) (fun v9 h9 z9 => ?_)
  obtain ⟨rfl, qtab, qoff⟩ := z9
  have hz9 := hT0
  have hP := hP.tab qoff (u_t0 qtab hT0)
  have hoff := hoff.trans (qoff.wide (a := _) (b := _) (a' := b) (b' := b + 93) (by omega) (by omega))
  obtain ⟨hb, hD, hS, ⟨σt, hDt⟩, ⟨pm, hH⟩, hT, ⟨go, gl, hG, hgl, hgo⟩, ⟨nx, tk, ts, ex, hsc⟩, hR⟩ := id hP
  obtain ⟨τ, hTt, hT0⟩ := id hT
  unfold s_po at hb
  have hd := hD.1
  have hs := hsc.1
  have hk := hH.1
  have ht := hTt.1
  have hg := hG.1
  have hr := hR.1
  have htd := hDt.1
  have hsd := hS.1
  have q1 := hD.2.1
  have q2 := hD.2.2.1
  have q3 := hD.2.2.2.1
  have q4 := hD.2.2.2.2
  have u1 := hDt.2.1
  have u2 := hDt.2.2.1
  have u3 := hDt.2.2.2.1
  have u4 := hDt.2.2.2.2
  rw [ok.1, ok.2.2.1] at hd
  have ht9 := qtab.1
  have loop : ∀ (k c : Nat), c + k = 100 → s_G TX8_steps (s_rp n (fun v9 h1 => v9 = some (.int (nI (v_sp π.1 cnt 100))) ∧ s_pl h1 b π ∧ s_off h h1 b (b + 93)) s_no) 17 (s_lvs [(0, .ref b), (1, .int (nI (v_sp π.1 cnt c))), (2, .int (nI (c + 1)))]) [] h9 n 0 0 := by
    intro k
    induction k with
    | zero =>
      intro c hk
      obtain rfl : c = 100 := by omega
      refine g_iload_n dX8_steps_17 rfl (by rfl) ?_
      refine g_bipush 100 dX8_steps_18 (by rfl) ?_
      refine g_icmp_gt (tgt := 59) dX8_steps_20 (by decide) (fun _ => ?_) (fun c_20 => absurd (show (100 : Int32) < nI (100 + 1) by decide) c_20)
      refine g_iload_n dX8_steps_59 rfl (by rfl) ?_
      refine g_ireturn dX8_steps_60 rfl ?_
      exact ⟨rfl, rfl, hP, hoff⟩
    | succ k ih =>
      intro c hk
      refine g_iload_n dX8_steps_17 rfl (by rfl) ?_
      refine g_bipush 100 dX8_steps_18 (by rfl) ?_
      refine g_icmp_gt (tgt := 59) dX8_steps_20 (by decide) (fun c_20 => absurd c_20 (Int32.not_lt.mpr (show nI (c + 1) ≤ nI 100 from nI_le (by omega) (by omega)))) (fun _ => ?_)
      refine g_aload_n dX8_steps_23 rfl (by rfl) ?_
      refine g_getf dX8_steps_24 fX8_36 (by exact hb) (by omega) (by rfl) ?_
      refine g_iload_n dX8_steps_27 rfl (by rfl) ?_
      refine g_callV_e (c_X7_bestFor qtab (by omega) (u_row_lt ok (u_z hz9 (Nat.le_refl _))) (nI (c + 1)) (u_hzb ok (u_z hz9 (Nat.le_refl _)) (by omega))) dX8_steps_28 (mX7_bestFor) rfl lX8_213 iX7_bestFor vX7_bestFor (by decide) (by omega) (by exact qtab.1) rfl rfl rfl rfl (Nat.le_of_ble_eq_true rfl) ?_
      refine g_callS_e (c_X8_rankWeight _) dX8_steps_31 (mX8_rankWeight) rfl lX8_192 sX8_rankWeight (by decide) rfl rfl (Nat.le_of_ble_eq_true rfl) ?_
      refine g_aload_n dX8_steps_34 rfl (by rfl) ?_
      refine g_getf dX8_steps_35 fX8_36 (by exact hb) (by omega) (by rfl) ?_
      refine g_iload_n dX8_steps_38 rfl (by rfl) ?_
      refine g_iconst 1 dX8_steps_39 (by rfl) ?_
      refine g_isub dX8_steps_40 ?_
      rw [nI_pred]
      refine g_callV_e (c_X7_bestFor qtab (by omega) (u_row_lt ok (u_z hz9 (Nat.le_refl _))) (nI c) (u_hzb ok (u_z hz9 (Nat.le_refl _)) (by omega))) dX8_steps_41 (mX7_bestFor) rfl lX8_213 iX7_bestFor vX7_bestFor (by decide) (by omega) (by exact qtab.1) rfl rfl rfl rfl (Nat.le_of_ble_eq_true rfl) ?_
      refine g_callS_e (c_X8_rankWeight _) dX8_steps_44 (mX8_rankWeight) rfl lX8_192 sX8_rankWeight (by decide) rfl rfl (Nat.le_of_ble_eq_true rfl) ?_
      refine g_icmp_le (tgt := 53) dX8_steps_47 (by decide) (fun c_47 => ?_) (fun c_47 => ?_)
      · have hb1 := u_best_of (cap := c) ok (u_z hz9 (Nat.le_refl _)) (by omega) (Nat.le_refl _)
        have hb2 := u_best_of (cap := c + 1) ok (u_z hz9 (Nat.le_refl _)) (by omega) (Nat.le_refl _)
        rw [hb1, hb2] at c_47
        have hs : v_sp π.1 cnt c = v_sp π.1 cnt (c + 1) := by simp only [v_sp, if_neg (Int32.not_lt.mpr c_47)]
        refine g_iinc (nI (c + 2)) dX8_steps_53 (by rfl) (nI_inc (c + 1)) ?_
        refine g_goto (tgt := 17) dX8_steps_56 (by decide) ?_
        exact g_lv (ih (c + 1) (by omega)) (by rw [← hs]; exact ⟨rfl, rfl, rfl, trivial⟩)
      · have hb1 := u_best_of (cap := c) ok (u_z hz9 (Nat.le_refl _)) (by omega) (Nat.le_refl _)
        have hb2 := u_best_of (cap := c + 1) ok (u_z hz9 (Nat.le_refl _)) (by omega) (Nat.le_refl _)
        rw [hb1, hb2] at c_47
        have hs : v_sp π.1 cnt c + 1 = v_sp π.1 cnt (c + 1) := by simp only [v_sp, if_pos (Int32.not_le.mp c_47)]
        refine g_iinc (nI (v_sp π.1 cnt c + 1)) dX8_steps_50 (by rfl) (nI_inc _) ?_
        refine g_iinc (nI (c + 2)) dX8_steps_53 (by rfl) (nI_inc (c + 1)) ?_
        refine g_goto (tgt := 17) dX8_steps_56 (by decide) ?_
        exact g_lv (ih (c + 1) (by omega)) (by rw [← hs]; exact ⟨rfl, rfl, rfl, trivial⟩)

  refine g_iconst 0 dX8_steps_13 (by rfl) ?_
  refine g_istore_n dX8_steps_14 rfl (by decide) ?_
  refine g_iconst 1 dX8_steps_15 (by rfl) ?_
  refine g_istore_n dX8_steps_16 rfl (by decide) ?_
  exact g_lv (loop 100 0 (by omega)) ⟨rfl, rfl, rfl, trivial⟩

theorem c_X8_cell {h : s_H} {n b : Nat} {π : s_Pl} (hP : s_pl h b π) (hn : b + 93 ≤ n) {cnt cp : Nat} (ok : d_ok π.1 cnt cp) (x y : Int32) : s_Mt TX8_cell 1 6 [.ref b, .int x, .int y] h n (s_rp n (fun v9 h1 => v9 = some (.int (u_cell π.1 cnt x.toNatClampNeg y.toNatClampNeg)) ∧ s_pl h1 b π ∧ s_off h h1 b (b + 93) ∧ ¬ (x < 0 ∨ s_bc (d_set π.1 0 cnt) < x ∨ y < 0 ∨ 100 < y)) (fun E h1 => E = "java/lang/IndexOutOfBoundsException" ∧ h1 = h ∧ ¬ ¬ (x < 0 ∨ s_bc (d_set π.1 0 cnt) < x ∨ y < 0 ∨ 100 < y))) := by
  obtain ⟨hb, hD, hS, ⟨σt, hDt⟩, ⟨pm, hH⟩, hT, ⟨go, gl, hG, hgl, hgo⟩, ⟨nx, tk, ts, ex, hsc⟩, hR⟩ := id hP
  obtain ⟨τ, hTt, hT0⟩ := id hT
  unfold s_po at hb
  have hd := hD.1
  have hs := hsc.1
  have hk := hH.1
  have ht := hTt.1
  have hg := hG.1
  have hr := hR.1
  have htd := hDt.1
  have hsd := hS.1
  have q1 := hD.2.1
  have q2 := hD.2.2.1
  have q3 := hD.2.2.2.1
  have q4 := hD.2.2.2.2
  have u1 := hDt.2.1
  have u2 := hDt.2.2.1
  have u3 := hDt.2.2.2.1
  have u4 := hDt.2.2.2.2
  rw [ok.1, ok.2.2.1] at hd
  have hoff : s_off h h b (b + 93) := s_off.rf
  refine s_Mt_of rfl (by decide) (by exact Nat.le_of_ble_eq_true rfl) ?_
  refine g_aload_n dX8_cell_0 rfl (by rfl) ?_
  refine g_iload_n dX8_cell_1 rfl (by rfl) ?_
  refine g_iconst 0 dX8_cell_2 (by rfl) ?_
  refine g_iload_n dX8_cell_3 rfl (by rfl) ?_
  refine g_callV_x (c_X8_requireCell hP hn ok x 0 y) dX8_cell_4 (mX8_requireCell) rfl lX8_220 iX8_requireCell vX8_requireCell (by decide) (by omega) (by exact hb) rfl rfl rfl rfl (Nat.le_of_ble_eq_true rfl) (Nat.le_of_ble_eq_true rfl) (Nat.le_of_ble_eq_true rfl) (fun v9 h9 z9 => ?_) (fun E9 h9 z9 => gx_out rfl ⟨rfl, z9.1, z9.2.1, fun z => z z9.2.2⟩)
  obtain ⟨rfl, hh, hin⟩ := z9
  have hh := hh.symm
  subst hh
  obtain ⟨c, hc, rfl⟩ := nI_of (fun z => hin (Or.inr (Or.inr (Or.inl z))))
  have hc100 : c ≤ 100 := Nat.le_of_not_lt fun z => hin (Or.inr (Or.inr (Or.inr (nI_lt z hc))))
  obtain ⟨r, hr, rfl⟩ := nI_of (fun z => hin (Or.inl z))
  have hrn : r ≤ u_nf π.1 cnt := Nat.le_of_not_lt fun z => hin (Or.inr (Or.inl (by rw [s_bc_free ok.2.1]; exact nI_lt z (by omega))))
  have hnf := u_nf_le (σ := π.1) cnt
  have hc14 := ok.2.1
  refine g_aload_n dX8_cell_7 rfl (by rfl) ?_
  refine g_getf dX8_cell_8 fX8_36 (by exact hb) (by omega) (by rfl) ?_
  refine g_aload_n dX8_cell_11 rfl (by rfl) ?_
  refine g_getf dX8_cell_12 fX8_12 (by exact hb) (by omega) (by rfl) ?_
  refine g_bipush 100 dX8_cell_15 (by rfl) ?_
  refine g_callV_p (c_X7_build (cnt := cnt) (lc := 100) hTt hD (by omega) (by omega) (by omega) ok.1 ok.2.1 ok.sz (by omega)) dX8_cell_17 (mX7_build) rfl lX8_205 iX7_build vX7_build (by decide) (by omega) (by exact ht) rfl rfl rfl rfl (Nat.le_of_ble_eq_true rfl) (fun v9 h9 z9 => ?_)
  obtain ⟨rfl, qtab, qoff⟩ := z9
  have hz9 := hT0
  have hP := hP.tab qoff (u_t0 qtab hT0)
  have hoff := hoff.trans (qoff.wide (a := _) (b := _) (a' := b) (b' := b + 93) (by omega) (by omega))
  obtain ⟨hb, hD, hS, ⟨σt, hDt⟩, ⟨pm, hH⟩, hT, ⟨go, gl, hG, hgl, hgo⟩, ⟨nx, tk, ts, ex, hsc⟩, hR⟩ := id hP
  obtain ⟨τ, hTt, hT0⟩ := id hT
  unfold s_po at hb
  have hd := hD.1
  have hs := hsc.1
  have hk := hH.1
  have ht := hTt.1
  have hg := hG.1
  have hr := hR.1
  have htd := hDt.1
  have hsd := hS.1
  have q1 := hD.2.1
  have q2 := hD.2.2.1
  have q3 := hD.2.2.2.1
  have q4 := hD.2.2.2.2
  have u1 := hDt.2.1
  have u2 := hDt.2.2.1
  have u3 := hDt.2.2.2.1
  have u4 := hDt.2.2.2.2
  rw [ok.1, ok.2.2.1] at hd
  refine g_aload_n dX8_cell_20 rfl (by rfl) ?_
  refine g_getf dX8_cell_21 fX8_36 (by exact hb) (by omega) (by rfl) ?_
  refine g_iload_n dX8_cell_24 rfl (by rfl) ?_
  refine g_iload_n dX8_cell_25 rfl (by rfl) ?_
  refine g_callV_e (c_X7_cellWeight (r := r) (c := c) qtab (by omega) (by omega) (by omega)) dX8_cell_26 (mX7_cellWeight) rfl lX8_223 iX7_cellWeight vX7_cellWeight (by decide) (by omega) (by exact qtab.1) rfl rfl rfl rfl (Nat.le_of_ble_eq_true rfl) ?_
  refine g_ireturn dX8_cell_29 rfl ?_
  exact ⟨rfl, by rw [u_cell_of (u_z hz9 (Nat.le_refl _)) hrn hc100, nI_clamp (by omega), nI_clamp (by omega)], hP, hoff, hin⟩

theorem c_X8_isRaised {h : s_H} {n b : Nat} {π : s_Pl} (hP : s_pl h b π) (hn : b + 93 ≤ n) {cnt cp : Nat} (ok : d_ok π.1 cnt cp) (x y : Int32) : s_Mt TX8_isRaised 1 6 [.ref b, .int x, .int y] h n (s_rp n (fun v9 h1 => v9 = some (.int (if u_cell π.1 cnt (x.toNatClampNeg - 1) y.toNatClampNeg < u_cell π.1 cnt x.toNatClampNeg y.toNatClampNeg then 1 else 0)) ∧ s_pl h1 b π ∧ s_off h h1 b (b + 93) ∧ ¬ (x < 1 ∨ s_bc (d_set π.1 0 cnt) < x ∨ y < 0 ∨ 100 < y)) (fun E h1 => E = "java/lang/IndexOutOfBoundsException" ∧ h1 = h ∧ ¬ ¬ (x < 1 ∨ s_bc (d_set π.1 0 cnt) < x ∨ y < 0 ∨ 100 < y))) := by
  obtain ⟨hb, hD, hS, ⟨σt, hDt⟩, ⟨pm, hH⟩, hT, ⟨go, gl, hG, hgl, hgo⟩, ⟨nx, tk, ts, ex, hsc⟩, hR⟩ := id hP
  obtain ⟨τ, hTt, hT0⟩ := id hT
  unfold s_po at hb
  have hd := hD.1
  have hs := hsc.1
  have hk := hH.1
  have ht := hTt.1
  have hg := hG.1
  have hr := hR.1
  have htd := hDt.1
  have hsd := hS.1
  have q1 := hD.2.1
  have q2 := hD.2.2.1
  have q3 := hD.2.2.2.1
  have q4 := hD.2.2.2.2
  have u1 := hDt.2.1
  have u2 := hDt.2.2.1
  have u3 := hDt.2.2.2.1
  have u4 := hDt.2.2.2.2
  rw [ok.1, ok.2.2.1] at hd
  have hoff : s_off h h b (b + 93) := s_off.rf
  refine s_Mt_of rfl (by decide) (by exact Nat.le_of_ble_eq_true rfl) ?_
  refine g_aload_n dX8_isRaised_0 rfl (by rfl) ?_
  refine g_iload_n dX8_isRaised_1 rfl (by rfl) ?_
  refine g_iconst 1 dX8_isRaised_2 (by rfl) ?_
  refine g_iload_n dX8_isRaised_3 rfl (by rfl) ?_
  refine g_callV_x (c_X8_requireCell hP hn ok x 1 y) dX8_isRaised_4 (mX8_requireCell) rfl lX8_220 iX8_requireCell vX8_requireCell (by decide) (by omega) (by exact hb) rfl rfl rfl rfl (Nat.le_of_ble_eq_true rfl) (Nat.le_of_ble_eq_true rfl) (Nat.le_of_ble_eq_true rfl) (fun v9 h9 z9 => ?_) (fun E9 h9 z9 => gx_out rfl ⟨rfl, z9.1, z9.2.1, fun z => z z9.2.2⟩)
  obtain ⟨rfl, hh, hin⟩ := z9
  have hh := hh.symm
  subst hh
  obtain ⟨c, hc, rfl⟩ := nI_of (fun z => hin (Or.inr (Or.inr (Or.inl z))))
  have hc100 : c ≤ 100 := Nat.le_of_not_lt fun z => hin (Or.inr (Or.inr (Or.inr (nI_lt z hc))))
  obtain ⟨r9, hr9, rfl⟩ := nI_of (x := x) (fun z => hin (Or.inl (by rw [Int32.lt_iff_toInt_lt] at z ⊢; exact Int.lt_trans z (by decide))))
  obtain ⟨r, rfl⟩ : ∃ r, r9 = r + 1 := ⟨r9 - 1, by have : r9 ≠ 0 := fun z => hin (Or.inl (by rw [z]; decide)); omega⟩
  have hrn : r + 1 ≤ u_nf π.1 cnt := Nat.le_of_not_lt fun z => hin (Or.inr (Or.inl (by rw [s_bc_free ok.2.1]; exact nI_lt z (by omega))))
  have hnf := u_nf_le (σ := π.1) cnt
  have hc14 := ok.2.1
  refine g_aload_n dX8_isRaised_7 rfl (by rfl) ?_
  refine g_getf dX8_isRaised_8 fX8_36 (by exact hb) (by omega) (by rfl) ?_
  refine g_aload_n dX8_isRaised_11 rfl (by rfl) ?_
  refine g_getf dX8_isRaised_12 fX8_12 (by exact hb) (by omega) (by rfl) ?_
  refine g_bipush 100 dX8_isRaised_15 (by rfl) ?_
  refine g_callV_p (c_X7_build (cnt := cnt) (lc := 100) hTt hD (by omega) (by omega) (by omega) ok.1 ok.2.1 ok.sz (by omega)) dX8_isRaised_17 (mX7_build) rfl lX8_205 iX7_build vX7_build (by decide) (by omega) (by exact ht) rfl rfl rfl rfl (Nat.le_of_ble_eq_true rfl) (fun v9 h9 z9 => ?_)
  obtain ⟨rfl, qtab, qoff⟩ := z9
  have hz9 := hT0
  have hP := hP.tab qoff (u_t0 qtab hT0)
  have hoff := hoff.trans (qoff.wide (a := _) (b := _) (a' := b) (b' := b + 93) (by omega) (by omega))
  obtain ⟨hb, hD, hS, ⟨σt, hDt⟩, ⟨pm, hH⟩, hT, ⟨go, gl, hG, hgl, hgo⟩, ⟨nx, tk, ts, ex, hsc⟩, hR⟩ := id hP
  obtain ⟨τ, hTt, hT0⟩ := id hT
  unfold s_po at hb
  have hd := hD.1
  have hs := hsc.1
  have hk := hH.1
  have ht := hTt.1
  have hg := hG.1
  have hr := hR.1
  have htd := hDt.1
  have hsd := hS.1
  have q1 := hD.2.1
  have q2 := hD.2.2.1
  have q3 := hD.2.2.2.1
  have q4 := hD.2.2.2.2
  have u1 := hDt.2.1
  have u2 := hDt.2.2.1
  have u3 := hDt.2.2.2.1
  have u4 := hDt.2.2.2.2
  rw [ok.1, ok.2.2.1] at hd
  refine g_aload_n dX8_isRaised_20 rfl (by rfl) ?_
  refine g_getf dX8_isRaised_21 fX8_36 (by exact hb) (by omega) (by rfl) ?_
  refine g_iload_n dX8_isRaised_24 rfl (by rfl) ?_
  refine g_iload_n dX8_isRaised_25 rfl (by rfl) ?_
  refine g_callV_e (c_X7_cellWeight (r := (r + 1)) (c := c) qtab (by omega) (by omega) (by omega)) dX8_isRaised_26 (mX7_cellWeight) rfl lX8_223 iX7_cellWeight vX7_cellWeight (by decide) (by omega) (by exact qtab.1) rfl rfl rfl rfl (Nat.le_of_ble_eq_true rfl) ?_
  refine g_aload_n dX8_isRaised_29 rfl (by rfl) ?_
  refine g_getf dX8_isRaised_30 fX8_36 (by exact hb) (by omega) (by rfl) ?_
  refine g_iload_n dX8_isRaised_33 rfl (by rfl) ?_
  refine g_iconst 1 dX8_isRaised_34 (by rfl) ?_
  refine g_isub dX8_isRaised_35 ?_
  rw [nI_pred]
  refine g_iload_n dX8_isRaised_36 rfl (by rfl) ?_
  refine g_callV_e (c_X7_cellWeight (r := r) (c := c) qtab (by omega) (by omega) (by omega)) dX8_isRaised_37 (mX7_cellWeight) rfl lX8_223 iX7_cellWeight vX7_cellWeight (by decide) (by omega) (by exact qtab.1) rfl rfl rfl rfl (Nat.le_of_ble_eq_true rfl) ?_
  refine g_icmp_le (tgt := 47) dX8_isRaised_40 (by decide) (fun c_40 => ?_) (fun c_40 => ?_)
  · refine g_iconst 0 dX8_isRaised_47 (by rfl) ?_
    refine g_zreturn dX8_isRaised_48 rfl (by decide) ?_
    rw [u_cell_of (u_z hz9 (Nat.le_refl _)) hrn hc100, u_cell_of (u_z hz9 (Nat.le_refl _)) (by omega) hc100] at c_40
    exact ⟨rfl, s_some (by rw [nI_clamp (by omega), nI_clamp (by omega), Nat.add_sub_cancel]; first | rw [if_pos (Int32.not_le.mp c_40)] | rw [if_neg (Int32.not_lt.mpr c_40)]), hP, hoff, hin⟩
  · refine g_iconst 1 dX8_isRaised_43 (by rfl) ?_
    refine g_goto (tgt := 48) dX8_isRaised_44 (by decide) ?_
    refine g_zreturn dX8_isRaised_48 rfl (by decide) ?_
    rw [u_cell_of (u_z hz9 (Nat.le_refl _)) hrn hc100, u_cell_of (u_z hz9 (Nat.le_refl _)) (by omega) hc100] at c_40
    exact ⟨rfl, s_some (by rw [nI_clamp (by omega), nI_clamp (by omega), Nat.add_sub_cancel]; first | rw [if_pos (Int32.not_le.mp c_40)] | rw [if_neg (Int32.not_lt.mpr c_40)]), hP, hoff, hin⟩
