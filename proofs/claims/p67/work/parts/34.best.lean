/-! THE COMPONENT: best plans -/
theorem u_t0 {h : s_H} {t lc i : Nat} {σ : s_D} {τ : s_Tb} (q : s_tab h t (t_build σ lc τ i)) (h0 : ∀ c, c ≤ 100 → τ.1 0 c = 0) : s_t0 h t := ⟨_, q, fun c hc => (u_row0 i).trans (h0 c hc)⟩
theorem u_z {τ : s_Tb} (h0 : ∀ c, c ≤ 100 → τ.1 0 c = 0) {lc : Nat} (hl : lc ≤ 100) : ∀ c, c ≤ lc → τ.1 0 c = 0 := fun c hc => h0 c (Nat.le_trans hc hl)
theorem d_ok.hd {h : s_H} {d cnt cp : Nat} {σ : s_D} (ok : d_ok σ cnt cp) (q : s_disk h d σ) : h d = .inr (0, [.ref (d + 1), .ref (d + 2), .ref (d + 3), .ref (d + 4), .int (nI cnt), .int (nI cp), .int (σ.2 2), .int (σ.2 3), .int (σ.2 4)]) := by
  have := q.1
  rw [ok.1, ok.2.2.1] at this
  exact this

theorem c_X8_bestRank {h : s_H} {n b : Nat} {π : s_Pl} (hP : s_pl h b π) (hn : b + 93 ≤ n) {d cnt cp : Nat} {σ : s_D} (hDd : s_disk h d σ) (okd : d_ok σ cnt cp) (hd68 : d + 5 ≤ b + 68) : s_Mt TX8_bestRank 0 0 [.ref b, .ref d] h n (s_rp n (fun v9 h1 => v9 = some (.long (u_best σ cnt cp)) ∧ (∃ τ : s_Tb, (∀ c, c ≤ 100 → τ.1 0 c = 0) ∧ s_tab h1 (b + 68) (t_build σ cp τ cnt)) ∧ s_off h h1 (b + 68) (b + 87)) s_no) := by
  obtain ⟨hb, hD, hS, ⟨σt, hDt⟩, ⟨pm, hH⟩, hT, ⟨go, gl, hG, hgl, hgo⟩, ⟨nx, tk, ts, ex, hsc⟩, hR⟩ := id hP
  obtain ⟨τ, hTt, hT0⟩ := id hT
  unfold s_po at hb
  have hd := hD.1
  have hs := hsc.1
  have hk := hH.1
  have ht := hTt.1
  have hg := hG.1
  have hr := hR.1
  have htd := hDt.1
  have hsd := hS.1
  have q1 := hD.2.1
  have q2 := hD.2.2.1
  have q3 := hD.2.2.2.1
  have q4 := hD.2.2.2.2
  have u1 := hDt.2.1
  have u2 := hDt.2.2.1
  have u3 := hDt.2.2.2.1
  have u4 := hDt.2.2.2.2
  have hdd := okd.hd hDd
  have hcp := okd.2.2.2.1
  refine s_Mt_of rfl (by decide) (by exact Nat.le_of_ble_eq_true rfl) ?_
  refine g_aload_n dX8_bestRank_0 rfl (by rfl) ?_
  refine g_getf dX8_bestRank_1 fX8_36 (by exact hb) (by omega) (by rfl) ?_
  refine g_aload_n dX8_bestRank_4 rfl (by rfl) ?_
  refine g_aload_n dX8_bestRank_5 rfl (by rfl) ?_
  refine g_getf dX8_bestRank_6 fX8_118 (by exact hdd) (by omega) (by rfl) ?_
  refine g_callV_p (c_X7_build (cnt := cnt) (lc := cp) hTt hDd (by omega) (by omega) (by omega) okd.1 okd.2.1 okd.sz (by omega)) dX8_bestRank_9 (mX7_build) rfl lX8_205 iX7_build vX7_build (by decide) (by omega) (by exact ht) rfl rfl rfl rfl (Nat.le_of_ble_eq_true rfl) (fun v9 h9 z9 => ?_)
  obtain ⟨rfl, qtab, qoff⟩ := z9
  have hz0 := u_z hT0 hcp
  have hP := hP.tab qoff (u_t0 qtab hT0)
  have hDd := hDd.off qoff (by omega)
  have hdd := okd.hd hDd
  have hT9 := hT0
  obtain ⟨hb, hD, hS, ⟨σt, hDt⟩, ⟨pm, hH⟩, hT, ⟨go, gl, hG, hgl, hgo⟩, ⟨nx, tk, ts, ex, hsc⟩, hR⟩ := id hP
  obtain ⟨τ, hTt, hT0⟩ := id hT
  unfold s_po at hb
  have hd := hD.1
  have hs := hsc.1
  have hk := hH.1
  have ht := hTt.1
  have hg := hG.1
  have hr := hR.1
  have htd := hDt.1
  have hsd := hS.1
  have q1 := hD.2.1
  have q2 := hD.2.2.1
  have q3 := hD.2.2.2.1
  have q4 := hD.2.2.2.2
  have u1 := hDt.2.1
  have u2 := hDt.2.2.1
  have u3 := hDt.2.2.2.1
  have u4 := hDt.2.2.2.2
  refine g_aload_n dX8_bestRank_12 rfl (by rfl) ?_
  refine g_getf dX8_bestRank_13 fX8_36 (by exact hb) (by omega) (by rfl) ?_
  refine g_aload_n dX8_bestRank_16 rfl (by rfl) ?_
  refine g_getf dX8_bestRank_17 fX8_118 (by exact hdd) (by omega) (by rfl) ?_
  refine g_callV_e (c_X7_bestFor qtab (by omega) (u_row_lt okd hz0) (nI cp) (u_hzb okd hz0 hcp)) dX8_bestRank_20 (mX7_bestFor) rfl lX8_213 iX7_bestFor vX7_bestFor (by decide) (by omega) (by exact qtab.1) rfl rfl rfl rfl (Nat.le_of_ble_eq_true rfl) ?_
  refine g_lreturn dX8_bestRank_23 rfl ?_
  exact ⟨rfl, by rw [u_best_of okd hz0 (Nat.le_refl _) hcp], ⟨_, hT9, qtab⟩, qoff⟩

theorem c_X8_bestWeight {h : s_H} {n b : Nat} {π : s_Pl} (hP : s_pl h b π) (hn : b + 93 ≤ n) {cnt cp : Nat} (ok : d_ok π.1 cnt cp) : s_Mt TX8_bestWeight 0 0 [.ref b] h n (s_rp n (fun v9 h1 => v9 = some (.int (r_wt (u_best π.1 cnt cp))) ∧ s_pl h1 b π ∧ s_off h h1 b (b + 93)) s_no) := by
  obtain ⟨hb, hD, hS, ⟨σt, hDt⟩, ⟨pm, hH⟩, hT, ⟨go, gl, hG, hgl, hgo⟩, ⟨nx, tk, ts, ex, hsc⟩, hR⟩ := id hP
  obtain ⟨τ, hTt, hT0⟩ := id hT
  unfold s_po at hb
  have hd := hD.1
  have hs := hsc.1
  have hk := hH.1
  have ht := hTt.1
  have hg := hG.1
  have hr := hR.1
  have htd := hDt.1
  have hsd := hS.1
  have q1 := hD.2.1
  have q2 := hD.2.2.1
  have q3 := hD.2.2.2.1
  have q4 := hD.2.2.2.2
  have u1 := hDt.2.1
  have u2 := hDt.2.2.1
  have u3 := hDt.2.2.2.1
  have u4 := hDt.2.2.2.2
  rw [ok.1, ok.2.2.1] at hd
  have hoff : s_off h h b (b + 93) := s_off.rf
  refine s_Mt_of rfl (by decide) (by exact Nat.le_of_ble_eq_true rfl) ?_
  refine g_aload_n dX8_bestWeight_0 rfl (by rfl) ?_
  refine g_aload_n dX8_bestWeight_1 rfl (by rfl) ?_
  refine g_getf dX8_bestWeight_2 fX8_12 (by exact hb) (by omega) (by rfl) ?_
  refine g_callV_p (c_X8_bestRank hP hn hD ok (by omega)) dX8_bestWeight_5 (mX8_bestRank) rfl lX8_121 iX8_bestRank vX8_bestRank (by decide) (by omega) (by exact hb) rfl rfl rfl rfl (Nat.le_of_ble_eq_true rfl) (fun v9 h9 z9 => ?_)
  obtain ⟨rfl, ⟨τ9, hz9, qtab⟩, qoff⟩ := z9
  have hP := hP.tab qoff (u_t0 qtab hz9)
  have hoff := hoff.trans (qoff.wide (a := _) (b := _) (a' := b) (b' := b + 93) (by omega) (by omega))
  obtain ⟨hb, hD, hS, ⟨σt, hDt⟩, ⟨pm, hH⟩, hT, ⟨go, gl, hG, hgl, hgo⟩, ⟨nx, tk, ts, ex, hsc⟩, hR⟩ := id hP
  obtain ⟨τ, hTt, hT0⟩ := id hT
  unfold s_po at hb
  have hd := hD.1
  have hs := hsc.1
  have hk := hH.1
  have ht := hTt.1
  have hg := hG.1
  have hr := hR.1
  have htd := hDt.1
  have hsd := hS.1
  have q1 := hD.2.1
  have q2 := hD.2.2.1
  have q3 := hD.2.2.2.1
  have q4 := hD.2.2.2.2
  have u1 := hDt.2.1
  have u2 := hDt.2.2.1
  have u3 := hDt.2.2.2.1
  have u4 := hDt.2.2.2.2
  rw [ok.1, ok.2.2.1] at hd
  refine g_callS_e (c_X8_rankWeight _) dX8_bestWeight_8 (mX8_rankWeight) rfl lX8_192 sX8_rankWeight (by decide) rfl rfl (Nat.le_of_ble_eq_true rfl) ?_
  refine g_ireturn dX8_bestWeight_11 rfl ?_
  exact ⟨rfl, rfl, hP, hoff⟩

theorem c_X8_bestPlan {h : s_H} {n b : Nat} {π : s_Pl} (hP : s_pl h b π) (hn : b + 93 ≤ n) {cnt cp : Nat} (ok : d_ok π.1 cnt cp) : s_Mt TX8_bestPlan 0 0 [.ref b] h n (s_rp n (fun v9 h1 => v9 = some (.int (r_st (u_best π.1 cnt cp))) ∧ s_pl h1 b π ∧ s_off h h1 b (b + 93)) s_no) := by
  obtain ⟨hb, hD, hS, ⟨σt, hDt⟩, ⟨pm, hH⟩, hT, ⟨go, gl, hG, hgl, hgo⟩, ⟨nx, tk, ts, ex, hsc⟩, hR⟩ := id hP
  obtain ⟨τ, hTt, hT0⟩ := id hT
  unfold s_po at hb
  have hd := hD.1
  have hs := hsc.1
  have hk := hH.1
  have ht := hTt.1
  have hg := hG.1
  have hr := hR.1
  have htd := hDt.1
  have hsd := hS.1
  have q1 := hD.2.1
  have q2 := hD.2.2.1
  have q3 := hD.2.2.2.1
  have q4 := hD.2.2.2.2
  have u1 := hDt.2.1
  have u2 := hDt.2.2.1
  have u3 := hDt.2.2.2.1
  have u4 := hDt.2.2.2.2
  rw [ok.1, ok.2.2.1] at hd
  have hoff : s_off h h b (b + 93) := s_off.rf
  refine s_Mt_of rfl (by decide) (by exact Nat.le_of_ble_eq_true rfl) ?_
  refine g_aload_n dX8_bestPlan_0 rfl (by rfl) ?_
  refine g_aload_n dX8_bestPlan_1 rfl (by rfl) ?_
  refine g_getf dX8_bestPlan_2 fX8_12 (by exact hb) (by omega) (by rfl) ?_
  refine g_callV_p (c_X8_bestRank hP hn hD ok (by omega)) dX8_bestPlan_5 (mX8_bestRank) rfl lX8_121 iX8_bestRank vX8_bestRank (by decide) (by omega) (by exact hb) rfl rfl rfl rfl (Nat.le_of_ble_eq_true rfl) (fun v9 h9 z9 => ?_)
  obtain ⟨rfl, ⟨τ9, hz9, qtab⟩, qoff⟩ := z9
  have hP := hP.tab qoff (u_t0 qtab hz9)
  have hoff := hoff.trans (qoff.wide (a := _) (b := _) (a' := b) (b' := b + 93) (by omega) (by omega))
  obtain ⟨hb, hD, hS, ⟨σt, hDt⟩, ⟨pm, hH⟩, hT, ⟨go, gl, hG, hgl, hgo⟩, ⟨nx, tk, ts, ex, hsc⟩, hR⟩ := id hP
  obtain ⟨τ, hTt, hT0⟩ := id hT
  unfold s_po at hb
  have hd := hD.1
  have hs := hsc.1
  have hk := hH.1
  have ht := hTt.1
  have hg := hG.1
  have hr := hR.1
  have htd := hDt.1
  have hsd := hS.1
  have q1 := hD.2.1
  have q2 := hD.2.2.1
  have q3 := hD.2.2.2.1
  have q4 := hD.2.2.2.2
  have u1 := hDt.2.1
  have u2 := hDt.2.2.1
  have u3 := hDt.2.2.2.1
  have u4 := hDt.2.2.2.2
  rw [ok.1, ok.2.2.1] at hd
  refine g_callS_e (c_X8_rankSet _) dX8_bestPlan_8 (mX8_rankSet) rfl lX8_134 sX8_rankSet (by decide) rfl rfl (Nat.le_of_ble_eq_true rfl) ?_
  refine g_ireturn dX8_bestPlan_11 rfl ?_
  exact ⟨rfl, rfl, hP, hoff⟩

theorem c_X8_bestSize {h : s_H} {n b : Nat} {π : s_Pl} (hP : s_pl h b π) (hn : b + 93 ≤ n) {cnt cp : Nat} (ok : d_ok π.1 cnt cp) : s_Mt TX8_bestSize 0 0 [.ref b] h n (s_rp n (fun v9 h1 => v9 = some (.int (r_sz (u_best π.1 cnt cp))) ∧ s_pl h1 b π ∧ s_off h h1 b (b + 93)) s_no) := by
  obtain ⟨hb, hD, hS, ⟨σt, hDt⟩, ⟨pm, hH⟩, hT, ⟨go, gl, hG, hgl, hgo⟩, ⟨nx, tk, ts, ex, hsc⟩, hR⟩ := id hP
  obtain ⟨τ, hTt, hT0⟩ := id hT
  unfold s_po at hb
  have hd := hD.1
  have hs := hsc.1
  have hk := hH.1
  have ht := hTt.1
  have hg := hG.1
  have hr := hR.1
  have htd := hDt.1
  have hsd := hS.1
  have q1 := hD.2.1
  have q2 := hD.2.2.1
  have q3 := hD.2.2.2.1
  have q4 := hD.2.2.2.2
  have u1 := hDt.2.1
  have u2 := hDt.2.2.1
  have u3 := hDt.2.2.2.1
  have u4 := hDt.2.2.2.2
  rw [ok.1, ok.2.2.1] at hd
  have hoff : s_off h h b (b + 93) := s_off.rf
  refine s_Mt_of rfl (by decide) (by exact Nat.le_of_ble_eq_true rfl) ?_
  refine g_aload_n dX8_bestSize_0 rfl (by rfl) ?_
  refine g_aload_n dX8_bestSize_1 rfl (by rfl) ?_
  refine g_getf dX8_bestSize_2 fX8_12 (by exact hb) (by omega) (by rfl) ?_
  refine g_callV_p (c_X8_bestRank hP hn hD ok (by omega)) dX8_bestSize_5 (mX8_bestRank) rfl lX8_121 iX8_bestRank vX8_bestRank (by decide) (by omega) (by exact hb) rfl rfl rfl rfl (Nat.le_of_ble_eq_true rfl) (fun v9 h9 z9 => ?_)
  obtain ⟨rfl, ⟨τ9, hz9, qtab⟩, qoff⟩ := z9
  have hP := hP.tab qoff (u_t0 qtab hz9)
  have hoff := hoff.trans (qoff.wide (a := _) (b := _) (a' := b) (b' := b + 93) (by omega) (by omega))
  obtain ⟨hb, hD, hS, ⟨σt, hDt⟩, ⟨pm, hH⟩, hT, ⟨go, gl, hG, hgl, hgo⟩, ⟨nx, tk, ts, ex, hsc⟩, hR⟩ := id hP
  obtain ⟨τ, hTt, hT0⟩ := id hT
  unfold s_po at hb
  have hd := hD.1
  have hs := hsc.1
  have hk := hH.1
  have ht := hTt.1
  have hg := hG.1
  have hr := hR.1
  have htd := hDt.1
  have hsd := hS.1
  have q1 := hD.2.1
  have q2 := hD.2.2.1
  have q3 := hD.2.2.2.1
  have q4 := hD.2.2.2.2
  have u1 := hDt.2.1
  have u2 := hDt.2.2.1
  have u3 := hDt.2.2.2.1
  have u4 := hDt.2.2.2.2
  rw [ok.1, ok.2.2.1] at hd
  refine g_callS_e (c_X8_rankSize _) dX8_bestSize_8 (mX8_rankSize) rfl lX8_195 sX8_rankSize (by decide) rfl rfl (Nat.le_of_ble_eq_true rfl) ?_
  refine g_ireturn dX8_bestSize_11 rfl ?_
  exact ⟨rfl, rfl, hP, hoff⟩

theorem c_X8_slack {h : s_H} {n b : Nat} {π : s_Pl} (hP : s_pl h b π) (hn : b + 93 ≤ n) {cnt cp : Nat} (ok : d_ok π.1 cnt cp) : s_Mt TX8_slack 0 0 [.ref b] h n (s_rp n (fun v9 h1 => v9 = some (.int (if u_best π.1 cnt cp = r_NP then -1 else nI cp - r_sz (u_best π.1 cnt cp))) ∧ s_pl h1 b π ∧ s_off h h1 b (b + 93)) s_no) := by
  obtain ⟨hb, hD, hS, ⟨σt, hDt⟩, ⟨pm, hH⟩, hT, ⟨go, gl, hG, hgl, hgo⟩, ⟨nx, tk, ts, ex, hsc⟩, hR⟩ := id hP
  obtain ⟨τ, hTt, hT0⟩ := id hT
  unfold s_po at hb
  have hd := hD.1
  have hs := hsc.1
  have hk := hH.1
  have ht := hTt.1
  have hg := hG.1
  have hr := hR.1
  have htd := hDt.1
  have hsd := hS.1
  have q1 := hD.2.1
  have q2 := hD.2.2.1
  have q3 := hD.2.2.2.1
  have q4 := hD.2.2.2.2
  have u1 := hDt.2.1
  have u2 := hDt.2.2.1
  have u3 := hDt.2.2.2.1
  have u4 := hDt.2.2.2.2
  rw [ok.1, ok.2.2.1] at hd
  have hoff : s_off h h b (b + 93) := s_off.rf
  refine s_Mt_of rfl (by decide) (by exact Nat.le_of_ble_eq_true rfl) ?_
  refine g_aload_n dX8_slack_0 rfl (by rfl) ?_
  refine g_aload_n dX8_slack_1 rfl (by rfl) ?_
  refine g_getf dX8_slack_2 fX8_12 (by exact hb) (by omega) (by rfl) ?_
  refine g_callV_p (c_X8_bestRank hP hn hD ok (by omega)) dX8_slack_5 (mX8_bestRank) rfl lX8_121 iX8_bestRank vX8_bestRank (by decide) (by omega) (by exact hb) rfl rfl rfl rfl (Nat.le_of_ble_eq_true rfl) (fun v9 h9 z9 => ?_)
  obtain ⟨rfl, ⟨τ9, hz9, qtab⟩, qoff⟩ := z9
  have hP := hP.tab qoff (u_t0 qtab hz9)
  have hoff := hoff.trans (qoff.wide (a := _) (b := _) (a' := b) (b' := b + 93) (by omega) (by omega))
  obtain ⟨hb, hD, hS, ⟨σt, hDt⟩, ⟨pm, hH⟩, hT, ⟨go, gl, hG, hgl, hgo⟩, ⟨nx, tk, ts, ex, hsc⟩, hR⟩ := id hP
  obtain ⟨τ, hTt, hT0⟩ := id hT
  unfold s_po at hb
  have hd := hD.1
  have hs := hsc.1
  have hk := hH.1
  have ht := hTt.1
  have hg := hG.1
  have hr := hR.1
  have htd := hDt.1
  have hsd := hS.1
  have q1 := hD.2.1
  have q2 := hD.2.2.1
  have q3 := hD.2.2.2.1
  have q4 := hD.2.2.2.2
  have u1 := hDt.2.1
  have u2 := hDt.2.2.1
  have u3 := hDt.2.2.2.1
  have u4 := hDt.2.2.2.2
  rw [ok.1, ok.2.2.1] at hd
  refine g_lstore_n dX8_slack_8 rfl (by decide) ?_
  refine g_lload_n dX8_slack_9 rfl (by rfl) ?_
  refine g_ldc2 dX8_slack_10 kX8_125 ?_
  refine g_lcmp dX8_slack_13 ?_
  refine g_if_ne (tgt := 21) dX8_slack_14 (by decide) (fun c_14 => ?_) (fun c_14 => ?_)
  · refine g_aload_n dX8_slack_21 rfl (by rfl) ?_
    refine g_getf dX8_slack_22 fX8_12 (by exact hb) (by omega) (by rfl) ?_
    refine g_getf dX8_slack_25 fX8_118 (by first | exact hd | exact htd | exact hsd) (by omega) (by rfl) ?_
    refine g_lload_n dX8_slack_28 rfl (by rfl) ?_
    refine g_callS_e (c_X8_rankSize _) dX8_slack_29 (mX8_rankSize) rfl lX8_195 sX8_rankSize (by decide) rfl rfl (Nat.le_of_ble_eq_true rfl) ?_
    refine g_isub dX8_slack_32 ?_
    refine g_ireturn dX8_slack_33 rfl ?_
    exact ⟨rfl, s_some (by first | rw [if_pos (show u_best π.1 cnt cp = r_NP from (lg_cmp_eq _ _).mp c_14)] | rw [if_neg (show ¬ u_best π.1 cnt cp = r_NP from fun z => c_14 ((lg_cmp_eq _ _).mpr z))]), hP, hoff⟩
  · refine g_iconst (-1) dX8_slack_17 (by rfl) ?_
    refine g_goto (tgt := 33) dX8_slack_18 (by decide) ?_
    refine g_ireturn dX8_slack_33 rfl ?_
    exact ⟨rfl, s_some (by first | rw [if_pos (show u_best π.1 cnt cp = r_NP from (lg_cmp_eq _ _).mp c_14)] | rw [if_neg (show ¬ u_best π.1 cnt cp = r_NP from fun z => c_14 ((lg_cmp_eq _ _).mpr z))]), hP, hoff⟩

theorem c_X8_weightAt {h : s_H} {n b : Nat} {π : s_Pl} (hP : s_pl h b π) (hn : b + 93 ≤ n) {cnt cp : Nat} (ok : d_ok π.1 cnt cp) (x : Int32) : s_Mt TX8_weightAt 1 6 [.ref b, .int x] h n (s_rp n (fun v9 h1 => v9 = some (.int (r_wt (u_best π.1 cnt x.toNatClampNeg))) ∧ s_pl h1 b π ∧ s_off h h1 b (b + 93) ∧ ¬ (x < 0 ∨ 100 < x)) (fun E h1 => E = "java/lang/IllegalArgumentException" ∧ h1 = h ∧ ¬ ¬ (x < 0 ∨ 100 < x))) := by
  obtain ⟨hb, hD, hS, ⟨σt, hDt⟩, ⟨pm, hH⟩, hT, ⟨go, gl, hG, hgl, hgo⟩, ⟨nx, tk, ts, ex, hsc⟩, hR⟩ := id hP
  obtain ⟨τ, hTt, hT0⟩ := id hT
  unfold s_po at hb
  have hd := hD.1
  have hs := hsc.1
  have hk := hH.1
  have ht := hTt.1
  have hg := hG.1
  have hr := hR.1
  have htd := hDt.1
  have hsd := hS.1
  have q1 := hD.2.1
  have q2 := hD.2.2.1
  have q3 := hD.2.2.2.1
  have q4 := hD.2.2.2.2
  have u1 := hDt.2.1
  have u2 := hDt.2.2.1
  have u3 := hDt.2.2.2.1
  have u4 := hDt.2.2.2.2
  rw [ok.1, ok.2.2.1] at hd
  have hoff : s_off h h b (b + 93) := s_off.rf
  refine s_Mt_of rfl (by decide) (by exact Nat.le_of_ble_eq_true rfl) ?_
  refine g_iload_n dX8_weightAt_0 rfl (by rfl) ?_
  refine g_iconst 0 dX8_weightAt_1 (by rfl) ?_
  refine g_bipush 100 dX8_weightAt_2 (by rfl) ?_
  refine g_callS_x (c_X8_requireWithin x 0 100) dX8_weightAt_4 (mX8_requireWithin) rfl lX8_80 sX8_requireWithin (by decide) rfl rfl (Nat.le_of_ble_eq_true rfl) (Nat.le_of_ble_eq_true rfl) (Nat.le_of_ble_eq_true rfl) (fun v9 h9 z9 => ?_) (fun E9 h9 z9 => gx_out rfl ⟨rfl, z9.1, z9.2.1, fun z => z z9.2.2⟩)
  obtain ⟨rfl, hh, hin⟩ := z9
  have hh := hh.symm
  subst hh
  obtain ⟨c, hc, rfl⟩ := nI_of (fun z => hin (Or.inl z))
  have hc100 : c ≤ 100 := Nat.le_of_not_lt fun z => hin (Or.inr (nI_lt z hc))
  refine g_aload_n dX8_weightAt_7 rfl (by rfl) ?_
  refine g_getf dX8_weightAt_8 fX8_36 (by exact hb) (by omega) (by rfl) ?_
  refine g_aload_n dX8_weightAt_11 rfl (by rfl) ?_
  refine g_getf dX8_weightAt_12 fX8_12 (by exact hb) (by omega) (by rfl) ?_
  refine g_iload_n dX8_weightAt_15 rfl (by rfl) ?_
  refine g_callV_p (c_X7_build (cnt := cnt) (lc := c) hTt hD (by omega) (by omega) (by omega) ok.1 ok.2.1 ok.sz (by omega)) dX8_weightAt_16 (mX7_build) rfl lX8_205 iX7_build vX7_build (by decide) (by omega) (by exact ht) rfl rfl rfl rfl (Nat.le_of_ble_eq_true rfl) (fun v9 h9 z9 => ?_)
  obtain ⟨rfl, qtab, qoff⟩ := z9
  have hz9 := hT0
  have hP := hP.tab qoff (u_t0 qtab hT0)
  have hoff := hoff.trans (qoff.wide (a := _) (b := _) (a' := b) (b' := b + 93) (by omega) (by omega))
  obtain ⟨hb, hD, hS, ⟨σt, hDt⟩, ⟨pm, hH⟩, hT, ⟨go, gl, hG, hgl, hgo⟩, ⟨nx, tk, ts, ex, hsc⟩, hR⟩ := id hP
  obtain ⟨τ, hTt, hT0⟩ := id hT
  unfold s_po at hb
  have hd := hD.1
  have hs := hsc.1
  have hk := hH.1
  have ht := hTt.1
  have hg := hG.1
  have hr := hR.1
  have htd := hDt.1
  have hsd := hS.1
  have q1 := hD.2.1
  have q2 := hD.2.2.1
  have q3 := hD.2.2.2.1
  have q4 := hD.2.2.2.2
  have u1 := hDt.2.1
  have u2 := hDt.2.2.1
  have u3 := hDt.2.2.2.1
  have u4 := hDt.2.2.2.2
  rw [ok.1, ok.2.2.1] at hd
  refine g_aload_n dX8_weightAt_19 rfl (by rfl) ?_
  refine g_getf dX8_weightAt_20 fX8_36 (by exact hb) (by omega) (by rfl) ?_
  refine g_iload_n dX8_weightAt_23 rfl (by rfl) ?_
  refine g_callV_e (c_X7_bestFor qtab (by omega) (u_row_lt ok (u_z hz9 (by omega))) (nI c) (u_hzb ok (u_z hz9 (by omega)) (by omega))) dX8_weightAt_24 (mX7_bestFor) rfl lX8_213 iX7_bestFor vX7_bestFor (by decide) (by omega) (by exact qtab.1) rfl rfl rfl rfl (Nat.le_of_ble_eq_true rfl) ?_
  refine g_callS_e (c_X8_rankWeight _) dX8_weightAt_27 (mX8_rankWeight) rfl lX8_192 sX8_rankWeight (by decide) rfl rfl (Nat.le_of_ble_eq_true rfl) ?_
  refine g_ireturn dX8_weightAt_30 rfl ?_
  exact ⟨rfl, by rw [u_best_of ok (u_z hz9 hc100) (Nat.le_refl _) hc100, nI_clamp (by omega)], hP, hoff, hin⟩

theorem c_X8_planAt {h : s_H} {n b : Nat} {π : s_Pl} (hP : s_pl h b π) (hn : b + 93 ≤ n) {cnt cp : Nat} (ok : d_ok π.1 cnt cp) (x : Int32) : s_Mt TX8_planAt 1 6 [.ref b, .int x] h n (s_rp n (fun v9 h1 => v9 = some (.int (r_st (u_best π.1 cnt x.toNatClampNeg))) ∧ s_pl h1 b π ∧ s_off h h1 b (b + 93) ∧ ¬ (x < 0 ∨ 100 < x)) (fun E h1 => E = "java/lang/IllegalArgumentException" ∧ h1 = h ∧ ¬ ¬ (x < 0 ∨ 100 < x))) := by
  obtain ⟨hb, hD, hS, ⟨σt, hDt⟩, ⟨pm, hH⟩, hT, ⟨go, gl, hG, hgl, hgo⟩, ⟨nx, tk, ts, ex, hsc⟩, hR⟩ := id hP
  obtain ⟨τ, hTt, hT0⟩ := id hT
  unfold s_po at hb
  have hd := hD.1
  have hs := hsc.1
  have hk := hH.1
  have ht := hTt.1
  have hg := hG.1
  have hr := hR.1
  have htd := hDt.1
  have hsd := hS.1
  have q1 := hD.2.1
  have q2 := hD.2.2.1
  have q3 := hD.2.2.2.1
  have q4 := hD.2.2.2.2
  have u1 := hDt.2.1
  have u2 := hDt.2.2.1
  have u3 := hDt.2.2.2.1
  have u4 := hDt.2.2.2.2
  rw [ok.1, ok.2.2.1] at hd
  have hoff : s_off h h b (b + 93) := s_off.rf
  refine s_Mt_of rfl (by decide) (by exact Nat.le_of_ble_eq_true rfl) ?_
  refine g_iload_n dX8_planAt_0 rfl (by rfl) ?_
  refine g_iconst 0 dX8_planAt_1 (by rfl) ?_
  refine g_bipush 100 dX8_planAt_2 (by rfl) ?_
  refine g_callS_x (c_X8_requireWithin x 0 100) dX8_planAt_4 (mX8_requireWithin) rfl lX8_80 sX8_requireWithin (by decide) rfl rfl (Nat.le_of_ble_eq_true rfl) (Nat.le_of_ble_eq_true rfl) (Nat.le_of_ble_eq_true rfl) (fun v9 h9 z9 => ?_) (fun E9 h9 z9 => gx_out rfl ⟨rfl, z9.1, z9.2.1, fun z => z z9.2.2⟩)
  obtain ⟨rfl, hh, hin⟩ := z9
  have hh := hh.symm
  subst hh
  obtain ⟨c, hc, rfl⟩ := nI_of (fun z => hin (Or.inl z))
  have hc100 : c ≤ 100 := Nat.le_of_not_lt fun z => hin (Or.inr (nI_lt z hc))
  refine g_aload_n dX8_planAt_7 rfl (by rfl) ?_
  refine g_getf dX8_planAt_8 fX8_36 (by exact hb) (by omega) (by rfl) ?_
  refine g_aload_n dX8_planAt_11 rfl (by rfl) ?_
  refine g_getf dX8_planAt_12 fX8_12 (by exact hb) (by omega) (by rfl) ?_
  refine g_iload_n dX8_planAt_15 rfl (by rfl) ?_
  refine g_callV_p (c_X7_build (cnt := cnt) (lc := c) hTt hD (by omega) (by omega) (by omega) ok.1 ok.2.1 ok.sz (by omega)) dX8_planAt_16 (mX7_build) rfl lX8_205 iX7_build vX7_build (by decide) (by omega) (by exact ht) rfl rfl rfl rfl (Nat.le_of_ble_eq_true rfl) (fun v9 h9 z9 => ?_)
  obtain ⟨rfl, qtab, qoff⟩ := z9
  have hz9 := hT0
  have hP := hP.tab qoff (u_t0 qtab hT0)
  have hoff := hoff.trans (qoff.wide (a := _) (b := _) (a' := b) (b' := b + 93) (by omega) (by omega))
  obtain ⟨hb, hD, hS, ⟨σt, hDt⟩, ⟨pm, hH⟩, hT, ⟨go, gl, hG, hgl, hgo⟩, ⟨nx, tk, ts, ex, hsc⟩, hR⟩ := id hP
  obtain ⟨τ, hTt, hT0⟩ := id hT
  unfold s_po at hb
  have hd := hD.1
  have hs := hsc.1
  have hk := hH.1
  have ht := hTt.1
  have hg := hG.1
  have hr := hR.1
  have htd := hDt.1
  have hsd := hS.1
  have q1 := hD.2.1
  have q2 := hD.2.2.1
  have q3 := hD.2.2.2.1
  have q4 := hD.2.2.2.2
  have u1 := hDt.2.1
  have u2 := hDt.2.2.1
  have u3 := hDt.2.2.2.1
  have u4 := hDt.2.2.2.2
  rw [ok.1, ok.2.2.1] at hd
  refine g_aload_n dX8_planAt_19 rfl (by rfl) ?_
  refine g_getf dX8_planAt_20 fX8_36 (by exact hb) (by omega) (by rfl) ?_
  refine g_iload_n dX8_planAt_23 rfl (by rfl) ?_
  refine g_callV_e (c_X7_bestFor qtab (by omega) (u_row_lt ok (u_z hz9 (by omega))) (nI c) (u_hzb ok (u_z hz9 (by omega)) (by omega))) dX8_planAt_24 (mX7_bestFor) rfl lX8_213 iX7_bestFor vX7_bestFor (by decide) (by omega) (by exact qtab.1) rfl rfl rfl rfl (Nat.le_of_ble_eq_true rfl) ?_
  refine g_callS_e (c_X8_rankSet _) dX8_planAt_27 (mX8_rankSet) rfl lX8_134 sX8_rankSet (by decide) rfl rfl (Nat.le_of_ble_eq_true rfl) ?_
  refine g_ireturn dX8_planAt_30 rfl ?_
  exact ⟨rfl, by rw [u_best_of ok (u_z hz9 hc100) (Nat.le_refl _) hc100, nI_clamp (by omega)], hP, hoff, hin⟩
