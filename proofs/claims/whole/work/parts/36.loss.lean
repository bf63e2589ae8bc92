/-! THE COMPONENT: what changes would do -/
noncomputable def u_bestI (σ : s_D) (cnt : Nat) (cap : Int32) : Int64 := if cap - u_ps σ cnt < 0 then r_NP else u_pr σ cnt + u_tp σ cnt (cap - u_ps σ cnt).toNatClampNeg
theorem u_subsub {σ : s_D} {cnt cp s : Nat} (ok : d_ok σ cnt cp) (hs : s ≤ 60) : (nI cp - nI s - u_ps σ cnt < 0) ∨ ∃ r, nI cp - nI s - u_ps σ cnt = nI r ∧ r ≤ cp := by
  obtain ⟨P, h1, h2⟩ := u_ps_ok ok cnt (Nat.le_refl _)
  have h3 := ok.2.1
  have h4 := ok.2.2.2.1
  rw [h1]
  have e : nI cp - nI s - nI P = nI cp - nI (s + P) := by
    rw [← nI_add]
    exact Int32.sub_sub _ _ _
  rw [e]
  by_cases g : s + P ≤ cp
  · exact Or.inr ⟨cp - (s + P), nI_sble g, by omega⟩
  · exact Or.inl (nI_sblt (by omega) (by omega))
theorem u_hzI {σ : s_D} {cnt cp s lc : Nat} {τ : s_Tb} (ok : d_ok σ cnt cp) (h0 : ∀ c, c ≤ lc → τ.1 0 c = 0) (hs : s ≤ 60) : ¬ nI cp - nI s - (t_build σ lc τ cnt).2.2.2.2.1 < 0 → (nI cp - nI s - (t_build σ lc τ cnt).2.2.2.2.1).toNatClampNeg < 101 := by
  rw [(u_build (σ := σ) h0 cnt).2.1]
  intro g
  have h4 := ok.2.2.2.1
  rcases u_subsub ok hs with z | ⟨r, z, hr⟩
  · exact absurd z g
  · rw [z, nI_clamp (by omega)]
    omega
theorem u_bestI_of {σ : s_D} {cnt cp s : Nat} {τ : s_Tb} (ok : d_ok σ cnt cp) (h0 : ∀ c, c ≤ cp → τ.1 0 c = 0) (hs : s ≤ 60) : t_best (t_build σ cp τ cnt) (nI cp - nI s) = u_bestI σ cnt (nI cp - nI s) := by
  obtain ⟨h1, h2, h3, h4, -⟩ := u_build (σ := σ) h0 cnt
  have h9 := ok.2.2.2.1
  unfold t_best u_bestI
  rw [h1, h2, h3]
  rcases u_subsub ok hs with z | ⟨r, z, hr⟩
  · rw [if_pos z, if_pos z]
  · rw [z, if_neg (nI_pos (by omega)), if_neg (nI_pos (by omega)), nI_clamp (by omega), h4 cnt (Nat.le_refl _) r hr]
theorem d_eq.bestI {cnt : Nat} {σ τ : s_D} {c : Int32} (q : d_eq cnt σ τ) : u_bestI σ cnt c = u_bestI τ cnt c := by
  unfold u_bestI
  rw [q.ps cnt (Nat.le_refl _), q.pr cnt (Nat.le_refl _), q.tp cnt (Nat.le_refl _)]
/-- the least value from v on with which the item goes along -/
def v_vn (oth wo : Int64) (a sz bt : Int32) : Nat → Nat → Int32
  | 0, _ => -1
  | k + 1, v => if wo < oth + r_rank (nI v * (1 + a)) sz bt then nI v else v_vn oth wo a sz bt k (v + 1)

theorem c_X8_rankIfState {h : s_H} {n b : Nat} {π : s_Pl} (hP : s_pl h b π) (hn : b + 93 ≤ n) {cnt cp : Nat} (ok : d_ok π.1 cnt cp) {i st : Nat} (hi : i < cnt) (hst : st ≤ 2) : s_Mt TX8_rankIfState 0 0 [.ref b, .int (nI i), .int (nI st)] h n (s_rp n (fun v9 h1 => v9 = some (.long (u_best (d_put π.1 3 i (nI st)) cnt cp)) ∧ s_pl h1 b π ∧ s_off h h1 b (b + 93) ∧ ∃ (σ : s_D) (τ : s_Tb), (∀ c, c ≤ 100 → τ.1 0 c = 0) ∧ d_eq cnt σ (d_put π.1 3 i (nI st)) ∧ d_ok σ cnt cp ∧ s_tab h1 (b + 68) (t_build σ cp τ cnt)) s_no) := by
  obtain ⟨hb, hD, hS, ⟨σt, hDt⟩, ⟨pm, hH⟩, hT, ⟨go, gl, hG, hgl, hgo⟩, ⟨nx, tk, ts, ex, hsc⟩, hR⟩ := id hP
  obtain ⟨τ, hTt, hT0⟩ := id hT
  unfold s_po at hb
  have hd := hD.1
  have hs := hsc.1
  have hk := hH.1
  have ht := hTt.1
  have hg := hG.1
  have hr := hR.1
  have htd := hDt.1
  have hsd := hS.1
  have q1 := hD.2.1
  have q2 := hD.2.2.1
  have q3 := hD.2.2.2.1
  have q4 := hD.2.2.2.2
  have u1 := hDt.2.1
  have u2 := hDt.2.2.1
  have u3 := hDt.2.2.2.1
  have u4 := hDt.2.2.2.2
  rw [ok.1, ok.2.2.1] at hd
  have hoff : s_off h h b (b + 93) := s_off.rf
  refine s_Mt_of rfl (by decide) (by exact Nat.le_of_ble_eq_true rfl) ?_
  refine g_aload_n dX8_rankIfState_0 rfl (by rfl) ?_
  refine g_getf dX8_rankIfState_1 fX8_16 (by exact hb) (by omega) (by rfl) ?_
  refine g_aload_n dX8_rankIfState_4 rfl (by rfl) ?_
  refine g_getf dX8_rankIfState_5 fX8_12 (by exact hb) (by omega) (by rfl) ?_
  refine g_callV_p (c_X2_copyFrom hDt hD (by omega) (by omega) (by omega)) dX8_rankIfState_8 (mX2_copyFrom) rfl lX8_96 iX2_copyFrom vX2_copyFrom (by decide) (by omega) (by first | exact hd | exact htd | exact hsd) rfl rfl rfl rfl (Nat.le_of_ble_eq_true rfl) (fun v9 h9 z9 => ?_)
  obtain ⟨rfl, qd, qoff⟩ := z9
  have he := d_eq.cpy ok.2.1 π.1 σt
  obtain ⟨σc, hσc⟩ : ∃ σc, σc = d_cpy π.1 σt := ⟨_, rfl⟩
  rw [← hσc] at qd he
  have hP := hP.trial qoff qd
  have hoff := hoff.trans (qoff.wide (a := _) (b := _) (a' := b) (b' := b + 93) (by omega) (by omega))
  obtain ⟨hb, hD, hS, ⟨σt, hDt⟩, ⟨pm, hH⟩, hT, ⟨go, gl, hG, hgl, hgo⟩, ⟨nx, tk, ts, ex, hsc⟩, hR⟩ := id hP
  obtain ⟨τ, hTt, hT0⟩ := id hT
  unfold s_po at hb
  have hd := hD.1
  have hs := hsc.1
  have hk := hH.1
  have ht := hTt.1
  have hg := hG.1
  have hr := hR.1
  have htd := hDt.1
  have hsd := hS.1
  have q1 := hD.2.1
  have q2 := hD.2.2.1
  have q3 := hD.2.2.2.1
  have q4 := hD.2.2.2.2
  have u1 := hDt.2.1
  have u2 := hDt.2.2.1
  have u3 := hDt.2.2.2.1
  have u4 := hDt.2.2.2.2
  rw [ok.1, ok.2.2.1] at hd
  have hDt := qd
  have htd := qd.1
  have u1 := qd.2.1
  have u2 := qd.2.2.1
  have u3 := qd.2.2.2.1
  have u4 := qd.2.2.2.2
  have hi14 := ok.2.1
  refine g_aload_n dX8_rankIfState_11 rfl (by rfl) ?_
  refine g_getf dX8_rankIfState_12 fX8_16 (by exact hb) (by omega) (by rfl) ?_
  refine g_getf dX8_rankIfState_15 fX8_69 (by first | exact hd | exact htd | exact hsd) (by omega) (by rfl) ?_
  refine g_iload_n dX8_rankIfState_18 rfl (by rfl) ?_
  refine g_iload_n dX8_rankIfState_19 rfl (by rfl) ?_
  refine g_iast' dX8_rankIfState_20 (by exact u4) (by omega) (by rfl) (by omega) (by omega) (fun h1 e1 => ?_)
  first | have hb_1 := s_up_off e1 (by omega) hb | have hb_1 := s_up_at e1
  first | have hd_1 := s_up_off e1 (by omega) hd | have hd_1 := s_up_at e1
  first | have htd_1 := s_up_off e1 (by omega) htd | have htd_1 := s_up_at e1
  first | have hsd_1 := s_up_off e1 (by omega) hsd | have hsd_1 := s_up_at e1
  first | have hs_1 := s_up_off e1 (by omega) hs | have hs_1 := s_up_at e1
  first | have hk_1 := s_up_off e1 (by omega) hk | have hk_1 := s_up_at e1
  first | have ht_1 := s_up_off e1 (by omega) ht | have ht_1 := s_up_at e1
  first | have hg_1 := s_up_off e1 (by omega) hg | have hg_1 := s_up_at e1
  first | have hr_1 := s_up_off e1 (by omega) hr | have hr_1 := s_up_at e1
  first | have q1_1 := s_up_off e1 (by omega) q1 | have q1_1 := s_up_at e1
  first | have q2_1 := s_up_off e1 (by omega) q2 | have q2_1 := s_up_at e1
  first | have q3_1 := s_up_off e1 (by omega) q3 | have q3_1 := s_up_at e1
  first | have q4_1 := s_up_off e1 (by omega) q4 | have q4_1 := s_up_at e1
  first | have u1_1 := s_up_off e1 (by omega) u1 | have u1_1 := s_up_at e1
  first | have u2_1 := s_up_off e1 (by omega) u2 | have u2_1 := s_up_at e1
  first | have u3_1 := s_up_off e1 (by omega) u3 | have u3_1 := s_up_at e1
  first | have u4_1 := s_up_off e1 (by omega) u4 | have u4_1 := s_up_at e1
  have qd := (⟨htd_1, u1_1, u2_1, u3_1, u4_1⟩ : s_disk h1 (b + 6) (d_put σc 3 i (nI st)))
  have qoff : s_off h9 h1 (b + 6) (b + 11) := s_off.rf.up e1 (by omega)
  have hP := hP.trial qoff qd
  have hoff := hoff.trans (qoff.wide (a := _) (b := _) (a' := b) (b' := b + 93) (by omega) (by omega))
  obtain ⟨hb, hD, hS, ⟨σt, hDt⟩, ⟨pm, hH⟩, hT, ⟨go, gl, hG, hgl, hgo⟩, ⟨nx, tk, ts, ex, hsc⟩, hR⟩ := id hP
  obtain ⟨τ, hTt, hT0⟩ := id hT
  unfold s_po at hb
  have hd := hD.1
  have hs := hsc.1
  have hk := hH.1
  have ht := hTt.1
  have hg := hG.1
  have hr := hR.1
  have htd := hDt.1
  have hsd := hS.1
  have q1 := hD.2.1
  have q2 := hD.2.2.1
  have q3 := hD.2.2.2.1
  have q4 := hD.2.2.2.2
  have u1 := hDt.2.1
  have u2 := hDt.2.2.1
  have u3 := hDt.2.2.2.1
  have u4 := hDt.2.2.2.2
  rw [ok.1, ok.2.2.1] at hd
  have htd := qd.1
  have he := he.put (f := 3) (i := i) (x := nI st) (by omega)
  have okd := he.sy.ok (ok.put3 hst)
  refine g_aload_n dX8_rankIfState_21 rfl (by rfl) ?_
  refine g_aload_n dX8_rankIfState_22 rfl (by rfl) ?_
  refine g_getf dX8_rankIfState_23 fX8_16 (by exact hb) (by omega) (by rfl) ?_
  refine g_callV_p (c_X8_bestRank hP hn qd okd (by omega)) dX8_rankIfState_26 (mX8_bestRank) rfl lX8_121 iX8_bestRank vX8_bestRank (by decide) (by omega) (by exact hb) rfl rfl rfl rfl (Nat.le_of_ble_eq_true rfl) (fun v9 h9 z9 => ?_)
  obtain ⟨rfl, ⟨τ9, hz9, qtab⟩, qoff⟩ := z9
  have hP := hP.tab qoff (u_t0 qtab hz9)
  have hoff := hoff.trans (qoff.wide (a := _) (b := _) (a' := b) (b' := b + 93) (by omega) (by omega))
  obtain ⟨hb, hD, hS, ⟨σt, hDt⟩, ⟨pm, hH⟩, hT, ⟨go, gl, hG, hgl, hgo⟩, ⟨nx, tk, ts, ex, hsc⟩, hR⟩ := id hP
  obtain ⟨τ, hTt, hT0⟩ := id hT
  unfold s_po at hb
  have hd := hD.1
  have hs := hsc.1
  have hk := hH.1
  have ht := hTt.1
  have hg := hG.1
  have hr := hR.1
  have htd := hDt.1
  have hsd := hS.1
  have q1 := hD.2.1
  have q2 := hD.2.2.1
  have q3 := hD.2.2.2.1
  have q4 := hD.2.2.2.2
  have u1 := hDt.2.1
  have u2 := hDt.2.2.1
  have u3 := hDt.2.2.2.1
  have u4 := hDt.2.2.2.2
  rw [ok.1, ok.2.2.1] at hd
  refine g_lreturn dX8_rankIfState_29 rfl ?_
  exact ⟨rfl, by rw [he.best], hP, hoff, _, _, hz9, he, okd, qtab⟩

theorem c_X8_lossIfExcluded {h : s_H} {n b : Nat} {π : s_Pl} (hP : s_pl h b π) (hn : b + 93 ≤ n) {cnt cp : Nat} (ok : d_ok π.1 cnt cp) (x : Int32) : s_Mt TX8_lossIfExcluded 1 6 [.ref b, .int x] h n (s_rp n (fun v9 h1 => v9 = some (.int (if u_best π.1 cnt cp = r_NP then 0 else r_wt (u_best π.1 cnt cp) - r_wt (u_best (d_put π.1 3 x.toNatClampNeg 2) cnt cp))) ∧ s_pl h1 b π ∧ s_off h h1 b (b + 93) ∧ s_in π x) (fun E h1 => E = "java/lang/IndexOutOfBoundsException" ∧ h1 = h ∧ ¬ s_in π x)) := by
  obtain ⟨hb, hD, hS, ⟨σt, hDt⟩, ⟨pm, hH⟩, hT, ⟨go, gl, hG, hgl, hgo⟩, ⟨nx, tk, ts, ex, hsc⟩, hR⟩ := id hP
  obtain ⟨τ, hTt, hT0⟩ := id hT
  unfold s_po at hb
  have hd := hD.1
  have hs := hsc.1
  have hk := hH.1
  have ht := hTt.1
  have hg := hG.1
  have hr := hR.1
  have htd := hDt.1
  have hsd := hS.1
  have q1 := hD.2.1
  have q2 := hD.2.2.1
  have q3 := hD.2.2.2.1
  have q4 := hD.2.2.2.2
  have u1 := hDt.2.1
  have u2 := hDt.2.2.1
  have u3 := hDt.2.2.2.1
  have u4 := hDt.2.2.2.2
  rw [ok.1, ok.2.2.1] at hd
  have hoff : s_off h h b (b + 93) := s_off.rf
  refine s_Mt_of rfl (by decide) (by exact Nat.le_of_ble_eq_true rfl) ?_
  refine g_aload_n dX8_lossIfExcluded_0 rfl (by rfl) ?_
  refine g_iload_n dX8_lossIfExcluded_1 rfl (by rfl) ?_
  refine g_callV_x (c_X8_requireItem hP hn x) dX8_lossIfExcluded_2 (mX8_requireItem) rfl lX8_102 iX8_requireItem vX8_requireItem (by decide) (by omega) (by exact hb) rfl rfl rfl rfl (Nat.le_of_ble_eq_true rfl) (Nat.le_of_ble_eq_true rfl) (Nat.le_of_ble_eq_true rfl) (fun v9 h9 z9 => ?_) (fun E9 h9 z9 => gx_out rfl ⟨rfl, z9.1, z9.2.1, z9.2.2⟩)
  obtain ⟨rfl, hh, hin⟩ := z9
  have hh := hh.symm
  subst hh
  obtain ⟨i, rfl, hi⟩ := s_in.nat hin ok
  have hi14 := ok.2.1
  refine g_aload_n dX8_lossIfExcluded_5 rfl (by rfl) ?_
  refine g_aload_n dX8_lossIfExcluded_6 rfl (by rfl) ?_
  refine g_getf dX8_lossIfExcluded_7 fX8_12 (by exact hb) (by omega) (by rfl) ?_
  refine g_callV_p (c_X8_bestRank hP hn hD ok (by omega)) dX8_lossIfExcluded_10 (mX8_bestRank) rfl lX8_121 iX8_bestRank vX8_bestRank (by decide) (by omega) (by exact hb) rfl rfl rfl rfl (Nat.le_of_ble_eq_true rfl) (fun v9 h9 z9 => ?_)
  obtain ⟨rfl, ⟨τ9, hz9, qtab⟩, qoff⟩ := z9
  have hP := hP.tab qoff (u_t0 qtab hz9)
  have hoff := hoff.trans (qoff.wide (a := _) (b := _) (a' := b) (b' := b + 93) (by omega) (by omega))
  obtain ⟨hb, hD, hS, ⟨σt, hDt⟩, ⟨pm, hH⟩, hT, ⟨go, gl, hG, hgl, hgo⟩, ⟨nx, tk, ts, ex, hsc⟩, hR⟩ := id hP
  obtain ⟨τ, hTt, hT0⟩ := id hT
  unfold s_po at hb
  have hd := hD.1
  have hs := hsc.1
  have hk := hH.1
  have ht := hTt.1
  have hg := hG.1
  have hr := hR.1
  have htd := hDt.1
  have hsd := hS.1
  have q1 := hD.2.1
  have q2 := hD.2.2.1
  have q3 := hD.2.2.2.1
  have q4 := hD.2.2.2.2
  have u1 := hDt.2.1
  have u2 := hDt.2.2.1
  have u3 := hDt.2.2.2.1
  have u4 := hDt.2.2.2.2
  rw [ok.1, ok.2.2.1] at hd
  refine g_lstore_n dX8_lossIfExcluded_13 rfl (by decide) ?_
  refine g_lload_n dX8_lossIfExcluded_14 rfl (by rfl) ?_
  refine g_ldc2 dX8_lossIfExcluded_15 kX8_125 ?_
  refine g_lcmp dX8_lossIfExcluded_18 ?_
  refine g_if_ne (tgt := 24) dX8_lossIfExcluded_19 (by decide) (fun c_19 => ?_) (fun c_19 => ?_)
  · refine g_lload_n dX8_lossIfExcluded_24 rfl (by rfl) ?_
    refine g_callS_e (c_X8_rankWeight _) dX8_lossIfExcluded_25 (mX8_rankWeight) rfl lX8_192 sX8_rankWeight (by decide) rfl rfl (Nat.le_of_ble_eq_true rfl) ?_
    refine g_aload_n dX8_lossIfExcluded_28 rfl (by rfl) ?_
    refine g_iload_n dX8_lossIfExcluded_29 rfl (by rfl) ?_
    refine g_iconst 2 dX8_lossIfExcluded_30 (by rfl) ?_
    refine g_callV_p (c_X8_rankIfState hP hn ok hi (st := 2) (by omega)) dX8_lossIfExcluded_31 (mX8_rankIfState) rfl lX8_235 iX8_rankIfState vX8_rankIfState (by decide) (by omega) (by exact hb) rfl rfl rfl rfl (Nat.le_of_ble_eq_true rfl) (fun v9 h9 z9 => ?_)
    obtain ⟨rfl, hP, qoff, σ9, τ9, hz9, he, okd, qtab⟩ := z9
    have hoff := hoff.trans (qoff.wide (a := _) (b := _) (a' := b) (b' := b + 93) (by omega) (by omega))
    obtain ⟨hb, hD, hS, ⟨σt, hDt⟩, ⟨pm, hH⟩, hT, ⟨go, gl, hG, hgl, hgo⟩, ⟨nx, tk, ts, ex, hsc⟩, hR⟩ := id hP
    obtain ⟨τ, hTt, hT0⟩ := id hT
    unfold s_po at hb
    have hd := hD.1
    have hs := hsc.1
    have hk := hH.1
    have ht := hTt.1
    have hg := hG.1
    have hr := hR.1
    have htd := hDt.1
    have hsd := hS.1
    have q1 := hD.2.1
    have q2 := hD.2.2.1
    have q3 := hD.2.2.2.1
    have q4 := hD.2.2.2.2
    have u1 := hDt.2.1
    have u2 := hDt.2.2.1
    have u3 := hDt.2.2.2.1
    have u4 := hDt.2.2.2.2
    rw [ok.1, ok.2.2.1] at hd
    refine g_callS_e (c_X8_rankWeight _) dX8_lossIfExcluded_34 (mX8_rankWeight) rfl lX8_192 sX8_rankWeight (by decide) rfl rfl (Nat.le_of_ble_eq_true rfl) ?_
    refine g_isub dX8_lossIfExcluded_37 ?_
    refine g_ireturn dX8_lossIfExcluded_38 rfl ?_
    exact ⟨rfl, by rw [if_neg (show ¬ u_best π.1 cnt cp = r_NP from fun z => c_19 ((lg_cmp_eq _ _).mpr z)), nI_clamp (by omega)]; rfl, hP, hoff, hin⟩
  · refine g_iconst 0 dX8_lossIfExcluded_22 (by rfl) ?_
    refine g_ireturn dX8_lossIfExcluded_23 rfl ?_
    exact ⟨rfl, by rw [if_pos (show u_best π.1 cnt cp = r_NP from (lg_cmp_eq _ _).mp c_19)], hP, hoff, hin⟩

theorem c_X8_lossIfPinned {h : s_H} {n b : Nat} {π : s_Pl} (hP : s_pl h b π) (hn : b + 93 ≤ n) {cnt cp : Nat} (ok : d_ok π.1 cnt cp) (x : Int32) : s_Mt TX8_lossIfPinned 1 6 [.ref b, .int x] h n (s_rp n (fun v9 h1 => v9 = some (.int (if u_best π.1 cnt cp = r_NP ∨ u_best (d_put π.1 3 x.toNatClampNeg 1) cnt cp = r_NP then -1 else r_wt (u_best π.1 cnt cp) - r_wt (u_best (d_put π.1 3 x.toNatClampNeg 1) cnt cp))) ∧ s_pl h1 b π ∧ s_off h h1 b (b + 93) ∧ s_in π x) (fun E h1 => E = "java/lang/IndexOutOfBoundsException" ∧ h1 = h ∧ ¬ s_in π x)) := by
  obtain ⟨hb, hD, hS, ⟨σt, hDt⟩, ⟨pm, hH⟩, hT, ⟨go, gl, hG, hgl, hgo⟩, ⟨nx, tk, ts, ex, hsc⟩, hR⟩ := id hP
  obtain ⟨τ, hTt, hT0⟩ := id hT
  unfold s_po at hb
  have hd := hD.1
  have hs := hsc.1
  have hk := hH.1
  have ht := hTt.1
  have hg := hG.1
  have hr := hR.1
  have htd := hDt.1
  have hsd := hS.1
  have q1 := hD.2.1
  have q2 := hD.2.2.1
  have q3 := hD.2.2.2.1
  have q4 := hD.2.2.2.2
  have u1 := hDt.2.1
  have u2 := hDt.2.2.1
  have u3 := hDt.2.2.2.1
  have u4 := hDt.2.2.2.2
  rw [ok.1, ok.2.2.1] at hd
  have hoff : s_off h h b (b + 93) := s_off.rf
  refine s_Mt_of rfl (by decide) (by exact Nat.le_of_ble_eq_true rfl) ?_
  refine g_aload_n dX8_lossIfPinned_0 rfl (by rfl) ?_
  refine g_iload_n dX8_lossIfPinned_1 rfl (by rfl) ?_
  refine g_callV_x (c_X8_requireItem hP hn x) dX8_lossIfPinned_2 (mX8_requireItem) rfl lX8_102 iX8_requireItem vX8_requireItem (by decide) (by omega) (by exact hb) rfl rfl rfl rfl (Nat.le_of_ble_eq_true rfl) (Nat.le_of_ble_eq_true rfl) (Nat.le_of_ble_eq_true rfl) (fun v9 h9 z9 => ?_) (fun E9 h9 z9 => gx_out rfl ⟨rfl, z9.1, z9.2.1, z9.2.2⟩)
  obtain ⟨rfl, hh, hin⟩ := z9
  have hh := hh.symm
  subst hh
  obtain ⟨i, rfl, hi⟩ := s_in.nat hin ok
  have hi14 := ok.2.1
  refine g_aload_n dX8_lossIfPinned_5 rfl (by rfl) ?_
  refine g_aload_n dX8_lossIfPinned_6 rfl (by rfl) ?_
  refine g_getf dX8_lossIfPinned_7 fX8_12 (by exact hb) (by omega) (by rfl) ?_
  refine g_callV_p (c_X8_bestRank hP hn hD ok (by omega)) dX8_lossIfPinned_10 (mX8_bestRank) rfl lX8_121 iX8_bestRank vX8_bestRank (by decide) (by omega) (by exact hb) rfl rfl rfl rfl (Nat.le_of_ble_eq_true rfl) (fun v9 h9 z9 => ?_)
  obtain ⟨rfl, ⟨τ9, hz9, qtab⟩, qoff⟩ := z9
  have hP := hP.tab qoff (u_t0 qtab hz9)
  have hoff := hoff.trans (qoff.wide (a := _) (b := _) (a' := b) (b' := b + 93) (by omega) (by omega))
  obtain ⟨hb, hD, hS, ⟨σt, hDt⟩, ⟨pm, hH⟩, hT, ⟨go, gl, hG, hgl, hgo⟩, ⟨nx, tk, ts, ex, hsc⟩, hR⟩ := id hP
  obtain ⟨τ, hTt, hT0⟩ := id hT
  unfold s_po at hb
  have hd := hD.1
  have hs := hsc.1
  have hk := hH.1
  have ht := hTt.1
  have hg := hG.1
  have hr := hR.1
  have htd := hDt.1
  have hsd := hS.1
  have q1 := hD.2.1
  have q2 := hD.2.2.1
  have q3 := hD.2.2.2.1
  have q4 := hD.2.2.2.2
  have u1 := hDt.2.1
  have u2 := hDt.2.2.1
  have u3 := hDt.2.2.2.1
  have u4 := hDt.2.2.2.2
  rw [ok.1, ok.2.2.1] at hd
  refine g_lstore_n dX8_lossIfPinned_13 rfl (by decide) ?_
  refine g_aload_n dX8_lossIfPinned_14 rfl (by rfl) ?_
  refine g_iload_n dX8_lossIfPinned_15 rfl (by rfl) ?_
  refine g_iconst 1 dX8_lossIfPinned_16 (by rfl) ?_
  refine g_callV_p (c_X8_rankIfState hP hn ok hi (st := 1) (by omega)) dX8_lossIfPinned_17 (mX8_rankIfState) rfl lX8_235 iX8_rankIfState vX8_rankIfState (by decide) (by omega) (by exact hb) rfl rfl rfl rfl (Nat.le_of_ble_eq_true rfl) (fun v9 h9 z9 => ?_)
  obtain ⟨rfl, hP, qoff, σ9, τ9, hz9, he, okd, qtab⟩ := z9
  have hoff := hoff.trans (qoff.wide (a := _) (b := _) (a' := b) (b' := b + 93) (by omega) (by omega))
  obtain ⟨hb, hD, hS, ⟨σt, hDt⟩, ⟨pm, hH⟩, hT, ⟨go, gl, hG, hgl, hgo⟩, ⟨nx, tk, ts, ex, hsc⟩, hR⟩ := id hP
  obtain ⟨τ, hTt, hT0⟩ := id hT
  unfold s_po at hb
  have hd := hD.1
  have hs := hsc.1
  have hk := hH.1
  have ht := hTt.1
  have hg := hG.1
  have hr := hR.1
  have htd := hDt.1
  have hsd := hS.1
  have q1 := hD.2.1
  have q2 := hD.2.2.1
  have q3 := hD.2.2.2.1
  have q4 := hD.2.2.2.2
  have u1 := hDt.2.1
  have u2 := hDt.2.2.1
  have u3 := hDt.2.2.2.1
  have u4 := hDt.2.2.2.2
  rw [ok.1, ok.2.2.1] at hd
  refine g_lstore dX8_lossIfPinned_20 (by decide) ?_
  refine g_lload_n dX8_lossIfPinned_22 rfl (by rfl) ?_
  refine g_ldc2 dX8_lossIfPinned_23 kX8_125 ?_
  refine g_lcmp dX8_lossIfPinned_26 ?_
  refine g_if_eq (tgt := 39) dX8_lossIfPinned_27 (by decide) (fun c_27 => ?_) (fun c_27 => ?_)
  · have hb8 : u_best π.1 cnt cp = r_NP ∨ (u_best (d_put π.1 3 i 1) cnt cp) = r_NP := Or.inl (show u_best π.1 cnt cp = r_NP from (lg_cmp_eq _ _).mp c_27)
    refine g_iconst (-1) dX8_lossIfPinned_39 (by rfl) ?_
    refine g_ireturn dX8_lossIfPinned_40 rfl ?_
    exact ⟨rfl, by rw [nI_clamp (by omega)]; first | exact s_some (if_pos hb8).symm | exact s_some (if_neg hb8).symm, hP, hoff, hin⟩
  · refine g_lload dX8_lossIfPinned_30 (by rfl) ?_
    refine g_ldc2 dX8_lossIfPinned_32 kX8_125 ?_
    refine g_lcmp dX8_lossIfPinned_35 ?_
    refine g_if_ne (tgt := 41) dX8_lossIfPinned_36 (by decide) (fun c_36 => ?_) (fun c_36 => ?_)
    · have hb8 : ¬ (u_best π.1 cnt cp = r_NP ∨ (u_best (d_put π.1 3 i 1) cnt cp) = r_NP) := fun z => z.elim (show ¬ u_best π.1 cnt cp = r_NP from fun z => c_27 ((lg_cmp_eq _ _).mpr z)) (fun z => c_36 ((lg_cmp_eq _ _).mpr z))
      refine g_lload_n dX8_lossIfPinned_41 rfl (by rfl) ?_
      refine g_callS_e (c_X8_rankWeight _) dX8_lossIfPinned_42 (mX8_rankWeight) rfl lX8_192 sX8_rankWeight (by decide) rfl rfl (Nat.le_of_ble_eq_true rfl) ?_
      refine g_lload dX8_lossIfPinned_45 (by rfl) ?_
      refine g_callS_e (c_X8_rankWeight _) dX8_lossIfPinned_47 (mX8_rankWeight) rfl lX8_192 sX8_rankWeight (by decide) rfl rfl (Nat.le_of_ble_eq_true rfl) ?_
      refine g_isub dX8_lossIfPinned_50 ?_
      refine g_ireturn dX8_lossIfPinned_51 rfl ?_
      exact ⟨rfl, by rw [nI_clamp (by omega)]; first | exact s_some (if_pos hb8).symm | exact s_some (if_neg hb8).symm, hP, hoff, hin⟩
    · have hb8 : u_best π.1 cnt cp = r_NP ∨ (u_best (d_put π.1 3 i 1) cnt cp) = r_NP := Or.inr ((lg_cmp_eq _ _).mp c_36)
      refine g_iconst (-1) dX8_lossIfPinned_39 (by rfl) ?_
      refine g_ireturn dX8_lossIfPinned_40 rfl ?_
      exact ⟨rfl, by rw [nI_clamp (by omega)]; first | exact s_some (if_pos hb8).symm | exact s_some (if_neg hb8).symm, hP, hoff, hin⟩

theorem v_cmp (x y : Int64) : (0 : Int32) < lg_cmp x y ↔ y < x := by rw [← Int32.not_le, lg_cmp_le, Int64.not_le]

theorem c_X8_valueNeeded {h : s_H} {n b : Nat} {π : s_Pl} (hP : s_pl h b π) (hn : b + 93 ≤ n) {cnt cp : Nat} (ok : d_ok π.1 cnt cp) (x : Int32) : s_Mt TX8_valueNeeded 1 6 [.ref b, .int x] h n (s_rp n (fun v9 h1 => v9 = some (.int (if ¬ π.1.1 3 x.toNatClampNeg = 0 then -1 else if u_bestI (d_put π.1 3 x.toNatClampNeg 2) cnt (nI cp - π.1.1 0 x.toNatClampNeg) = r_NP then -1 else (v_vn (u_bestI (d_put π.1 3 x.toNatClampNeg 2) cnt (nI cp - π.1.1 0 x.toNatClampNeg)) (u_best (d_put π.1 3 x.toNatClampNeg 2) cnt cp) (π.1.1 2 x.toNatClampNeg) (π.1.1 0 x.toNatClampNeg) ((1 : Int32) <<< (nI x.toNatClampNeg &&& 31)) 1000 0))) ∧ s_pl h1 b π ∧ s_off h h1 b (b + 93) ∧ s_in π x) (fun E h1 => E = "java/lang/IndexOutOfBoundsException" ∧ h1 = h ∧ ¬ s_in π x)) := by
  obtain ⟨hb, hD, hS, ⟨σt, hDt⟩, ⟨pm, hH⟩, hT, ⟨go, gl, hG, hgl, hgo⟩, ⟨nx, tk, ts, ex, hsc⟩, hR⟩ := id hP
  obtain ⟨τ, hTt, hT0⟩ := id hT
  unfold s_po at hb
  have hd := hD.1
  have hs := hsc.1
  have hk := hH.1
  have ht := hTt.1
  have hg := hG.1
  have hr := hR.1
  have htd := hDt.1
  have hsd := hS.1
  have q1 := hD.2.1
  have q2 := hD.2.2.1
  have q3 := hD.2.2.2.1
  have q4 := hD.2.2.2.2
  have u1 := hDt.2.1
  have u2 := hDt.2.2.1
  have u3 := hDt.2.2.2.1
  have u4 := hDt.2.2.2.2
  rw [ok.1, ok.2.2.1] at hd
  have hoff : s_off h h b (b + 93) := s_off.rf
  refine s_Mt_of rfl (by decide) (by exact Nat.le_of_ble_eq_true rfl) ?_
  refine g_aload_n dX8_valueNeeded_0 rfl (by rfl) ?_
  refine g_iload_n dX8_valueNeeded_1 rfl (by rfl) ?_
  refine g_callV_x (c_X8_requireItem hP hn x) dX8_valueNeeded_2 (mX8_requireItem) rfl lX8_102 iX8_requireItem vX8_requireItem (by decide) (by omega) (by exact hb) rfl rfl rfl rfl (Nat.le_of_ble_eq_true rfl) (Nat.le_of_ble_eq_true rfl) (Nat.le_of_ble_eq_true rfl) (fun v9 h9 z9 => ?_) (fun E9 h9 z9 => gx_out rfl ⟨rfl, z9.1, z9.2.1, z9.2.2⟩)
  obtain ⟨rfl, hh, hin⟩ := z9
  have hh := hh.symm
  subst hh
  obtain ⟨i, rfl, hi⟩ := s_in.nat hin ok
  have hi14 := ok.2.1
  refine g_aload_n dX8_valueNeeded_5 rfl (by rfl) ?_
  refine g_getf dX8_valueNeeded_6 fX8_12 (by exact hb) (by omega) (by rfl) ?_
  refine g_getf dX8_valueNeeded_9 fX8_69 (by first | exact hd | exact htd | exact hsd) (by omega) (by rfl) ?_
  refine g_iload_n dX8_valueNeeded_12 rfl (by rfl) ?_
  refine g_iald dX8_valueNeeded_13 (by first | exact q1 | exact q2 | exact q3 | exact q4 | exact u1 | exact u2 | exact u3 | exact u4) (by omega) (by rfl) (by omega) (by omega) ?_
  refine g_if_eq (tgt := 19) dX8_valueNeeded_14 (by decide) (fun c_14 => ?_) (fun c_14 => ?_)
  · refine g_aload_n dX8_valueNeeded_19 rfl (by rfl) ?_
    refine g_iload_n dX8_valueNeeded_20 rfl (by rfl) ?_
    refine g_iconst 2 dX8_valueNeeded_21 (by rfl) ?_
    refine g_callV_p (c_X8_rankIfState hP hn ok hi (st := 2) (by omega)) dX8_valueNeeded_22 (mX8_rankIfState) rfl lX8_235 iX8_rankIfState vX8_rankIfState (by decide) (by omega) (by exact hb) rfl rfl rfl rfl (Nat.le_of_ble_eq_true rfl) (fun v9 h9 z9 => ?_)
    obtain ⟨rfl, hP, qoff, σ9, τ9, hz9, he, okd, qtab⟩ := z9
    have hoff := hoff.trans (qoff.wide (a := _) (b := _) (a' := b) (b' := b + 93) (by omega) (by omega))
    obtain ⟨hb, hD, hS, ⟨σt, hDt⟩, ⟨pm, hH⟩, hT, ⟨go, gl, hG, hgl, hgo⟩, ⟨nx, tk, ts, ex, hsc⟩, hR⟩ := id hP
    obtain ⟨τ, hTt, hT0⟩ := id hT
    unfold s_po at hb
    have hd := hD.1
    have hs := hsc.1
    have hk := hH.1
    have ht := hTt.1
    have hg := hG.1
    have hr := hR.1
    have htd := hDt.1
    have hsd := hS.1
    have q1 := hD.2.1
    have q2 := hD.2.2.1
    have q3 := hD.2.2.2.1
    have q4 := hD.2.2.2.2
    have u1 := hDt.2.1
    have u2 := hDt.2.2.1
    have u3 := hDt.2.2.2.1
    have u4 := hDt.2.2.2.2
    rw [ok.1, ok.2.2.1] at hd
    refine g_lstore_n dX8_valueNeeded_25 rfl (by decide) ?_
    refine g_aload_n dX8_valueNeeded_26 rfl (by rfl) ?_
    refine g_getf dX8_valueNeeded_27 fX8_36 (by exact hb) (by omega) (by rfl) ?_
    refine g_aload_n dX8_valueNeeded_30 rfl (by rfl) ?_
    refine g_getf dX8_valueNeeded_31 fX8_12 (by exact hb) (by omega) (by rfl) ?_
    refine g_getf dX8_valueNeeded_34 fX8_118 (by first | exact hd | exact htd | exact hsd) (by omega) (by rfl) ?_
    refine g_aload_n dX8_valueNeeded_37 rfl (by rfl) ?_
    refine g_getf dX8_valueNeeded_38 fX8_12 (by exact hb) (by omega) (by rfl) ?_
    refine g_getf dX8_valueNeeded_41 fX8_108 (by first | exact hd | exact htd | exact hsd) (by omega) (by rfl) ?_
    refine g_iload_n dX8_valueNeeded_44 rfl (by rfl) ?_
    refine g_iald dX8_valueNeeded_45 (by first | exact q1 | exact q2 | exact q3 | exact q4 | exact u1 | exact u2 | exact u3 | exact u4) (by omega) (by rfl) (by omega) (by omega) ?_
    refine g_isub dX8_valueNeeded_46 ?_
    obtain ⟨⟨sz, hsz, hs1, hs60⟩, -⟩ := ok.2.2.2.2 i hi
    rw [hsz]
    refine g_callV_e (c_X7_bestFor qtab (by omega) (u_row_lt okd (u_z hz9 okd.2.2.2.1)) (nI cp - nI sz) (u_hzI okd (u_z hz9 okd.2.2.2.1) hs60)) dX8_valueNeeded_47 (mX7_bestFor) rfl lX8_213 iX7_bestFor vX7_bestFor (by decide) (by omega) (by exact qtab.1) rfl rfl rfl rfl (Nat.le_of_ble_eq_true rfl) ?_
    rw [u_bestI_of okd (u_z hz9 okd.2.2.2.1) hs60, he.bestI, ← hsz]
    refine g_lstore dX8_valueNeeded_50 (by decide) ?_
    refine g_lload dX8_valueNeeded_52 (by rfl) ?_
    refine g_ldc2 dX8_valueNeeded_54 kX8_125 ?_
    refine g_lcmp dX8_valueNeeded_57 ?_
    refine g_if_ne (tgt := 63) dX8_valueNeeded_58 (by decide) (fun c_58 => ?_) (fun c_58 => ?_)
    · refine g_iconst 0 dX8_valueNeeded_63 (by rfl) ?_
      refine g_istore dX8_valueNeeded_64 (by decide) ?_
      have hon := fun z => c_58 ((lg_cmp_eq (u_bestI (d_put π.1 3 i 2) cnt (nI cp - π.1.1 0 i)) r_NP).mpr z)
      have loop : ∀ (k v : Nat), v + k = 1000 → (v_vn (u_bestI (d_put π.1 3 i 2) cnt (nI cp - π.1.1 0 i)) (u_best (d_put π.1 3 i 2) cnt cp) (π.1.1 2 i) (π.1.1 0 i) ((1 : Int32) <<< (nI i &&& 31)) 1000 0) = v_vn (u_bestI (d_put π.1 3 i 2) cnt (nI cp - π.1.1 0 i)) (u_best (d_put π.1 3 i 2) cnt cp) (π.1.1 2 i) (π.1.1 0 i) ((1 : Int32) <<< (nI i &&& 31)) k v → s_G TX8_valueNeeded (s_rp n (fun v9 h1 => v9 = some (.int (if ¬ π.1.1 3 (nI i).toNatClampNeg = 0 then -1 else if u_bestI (d_put π.1 3 (nI i).toNatClampNeg 2) cnt (nI cp - π.1.1 0 (nI i).toNatClampNeg) = r_NP then -1 else (v_vn (u_bestI (d_put π.1 3 (nI i).toNatClampNeg 2) cnt (nI cp - π.1.1 0 (nI i).toNatClampNeg)) (u_best (d_put π.1 3 (nI i).toNatClampNeg 2) cnt cp) (π.1.1 2 (nI i).toNatClampNeg) (π.1.1 0 (nI i).toNatClampNeg) ((1 : Int32) <<< (nI (nI i).toNatClampNeg &&& 31)) 1000 0))) ∧ s_pl h1 b π ∧ s_off h h1 b (b + 93) ∧ s_in π (nI i)) (fun E h1 => E = "java/lang/IndexOutOfBoundsException" ∧ h1 = h ∧ ¬ s_in π (nI i))) 66 (s_lvs [(0, .ref b), (1, .int (nI i)), (2, .long (u_best (d_put π.1 3 i 2) cnt cp)), (4, .long (u_bestI (d_put π.1 3 i 2) cnt (nI cp - π.1.1 0 i))), (6, .int (nI v))]) [] h9 n (1 - 1) (6 - 6) := by
        intro k
        induction k with
        | zero =>
          intro v hk hvv
          obtain rfl : v = 1000 := by omega
          refine g_iload dX8_valueNeeded_66 (by rfl) ?_
          refine g_sipush 999 dX8_valueNeeded_68 (by rfl) ?_
          refine g_icmp_gt (tgt := 120) dX8_valueNeeded_71 (by decide) (fun _ => ?_) (fun c_71 => absurd (show (999 : Int32) < nI 1000 by decide) c_71)
          refine g_iconst (-1) dX8_valueNeeded_120 (by rfl) ?_
          refine g_ireturn dX8_valueNeeded_121 rfl ?_
          refine ⟨rfl, ?_, hP, hoff, hin⟩
          rw [nI_clamp (by omega), if_neg (fun z => z c_14), if_neg hon, hvv]
          rfl
        | succ k ih =>
          intro v hk hvv
          refine g_iload dX8_valueNeeded_66 (by rfl) ?_
          refine g_sipush 999 dX8_valueNeeded_68 (by rfl) ?_
          refine g_icmp_gt (tgt := 120) dX8_valueNeeded_71 (by decide) (fun c_71 => absurd c_71 (Int32.not_lt.mpr (show nI v ≤ nI 999 from nI_le (by omega) (by omega)))) (fun _ => ?_)
          refine g_lload dX8_valueNeeded_74 (by rfl) ?_
          refine g_iload dX8_valueNeeded_76 (by rfl) ?_
          refine g_iconst 1 dX8_valueNeeded_78 (by rfl) ?_
          refine g_aload_n dX8_valueNeeded_79 rfl (by rfl) ?_
          refine g_getf dX8_valueNeeded_80 fX8_12 (by exact hb) (by omega) (by rfl) ?_
          refine g_getf dX8_valueNeeded_83 fX8_170 (by first | exact hd | exact htd | exact hsd) (by omega) (by rfl) ?_
          refine g_iload_n dX8_valueNeeded_86 rfl (by rfl) ?_
          refine g_iald dX8_valueNeeded_87 (by first | exact q1 | exact q2 | exact q3 | exact q4 | exact u1 | exact u2 | exact u3 | exact u4) (by omega) (by rfl) (by omega) (by omega) ?_
          refine g_iadd dX8_valueNeeded_88 ?_
          refine g_imul dX8_valueNeeded_89 ?_
          refine g_aload_n dX8_valueNeeded_90 rfl (by rfl) ?_
          refine g_getf dX8_valueNeeded_91 fX8_12 (by exact hb) (by omega) (by rfl) ?_
          refine g_getf dX8_valueNeeded_94 fX8_108 (by first | exact hd | exact htd | exact hsd) (by omega) (by rfl) ?_
          refine g_iload_n dX8_valueNeeded_97 rfl (by rfl) ?_
          refine g_iald dX8_valueNeeded_98 (by first | exact q1 | exact q2 | exact q3 | exact q4 | exact u1 | exact u2 | exact u3 | exact u4) (by omega) (by rfl) (by omega) (by omega) ?_
          refine g_iconst 1 dX8_valueNeeded_99 (by rfl) ?_
          refine g_iload_n dX8_valueNeeded_100 rfl (by rfl) ?_
          refine g_ishl dX8_valueNeeded_101 ?_
          refine g_callS_e (c_X8_rank _ _ _) dX8_valueNeeded_102 (mX8_rank) rfl lX8_239 sX8_rank (by decide) rfl rfl (Nat.le_of_ble_eq_true rfl) ?_
          refine g_ladd dX8_valueNeeded_105 ?_
          refine g_lload_n dX8_valueNeeded_106 rfl (by rfl) ?_
          refine g_lcmp dX8_valueNeeded_107 ?_
          refine g_if_le (tgt := 114) dX8_valueNeeded_108 (by decide) (fun c_108 => ?_) (fun c_108 => ?_)
          · refine g_iinc (nI (v + 1)) dX8_valueNeeded_114 (by rfl) (nI_inc v) ?_
            refine g_goto (tgt := 66) dX8_valueNeeded_117 (by decide) ?_
            exact g_lv (ih (v + 1) (by omega) (by rw [hvv]; simp only [v_vn]; exact if_neg (fun z => Int32.not_lt.mpr c_108 ((v_cmp _ _).mpr z)))) ⟨rfl, rfl, rfl, rfl, rfl, trivial⟩
          · refine g_iload dX8_valueNeeded_111 (by rfl) ?_
            refine g_ireturn dX8_valueNeeded_113 rfl ?_
            refine ⟨rfl, ?_, hP, hoff, hin⟩
            rw [nI_clamp (by omega), if_neg (fun z => z c_14), if_neg hon, hvv]
            simp only [v_vn]
            rw [if_pos ((v_cmp _ _).mp (Int32.not_le.mp c_108))]
      exact g_lv (loop 1000 0 (by omega) rfl) ⟨rfl, rfl, rfl, rfl, rfl, trivial⟩
    · refine g_iconst (-1) dX8_valueNeeded_61 (by rfl) ?_
      refine g_ireturn dX8_valueNeeded_62 rfl ?_
      exact ⟨rfl, by rw [nI_clamp (by omega), if_neg (fun z => z c_14), if_pos ((lg_cmp_eq (u_bestI (d_put π.1 3 i 2) cnt (nI cp - π.1.1 0 i)) r_NP).mp c_58)], hP, hoff, hin⟩
  · refine g_iconst (-1) dX8_valueNeeded_17 (by rfl) ?_
    refine g_ireturn dX8_valueNeeded_18 rfl ?_
    exact ⟨rfl, by rw [nI_clamp (by omega), if_pos c_14], hP, hoff, hin⟩
