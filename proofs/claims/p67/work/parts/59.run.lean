/-! THE COMPONENT: runScript -/
theorem s_off3.mid {h h1 : s_H} {b : Nat} (z : s_off3 h h1 b) : ∃ hm, s_off h hm (b + 6) (b + 11) ∧ s_off2 hm h1 (b + 68) (b + 87) (b + 89) (b + 91) := by
  refine ⟨fun j => if b + 6 ≤ j ∧ j < b + 11 then h1 j else h j, fun j hj => if_neg (by omega), fun j hj hj2 => ?_⟩
  by_cases q : b + 6 ≤ j ∧ j < b + 11
  · exact (if_pos q).symm
  · show h1 j = if _ then _ else _
    rw [if_neg q]
    exact z j (by omega) hj hj2
theorem s_off3.one {h h1 : s_H} {b : Nat} (z : s_off3 h h1 b) : s_off h h1 b (b + 93) := fun j hj => z j (by omega) (by omega) (by omega)
def pl_scr (π : s_Pl) (len : Nat) (ek eo : Int32) : s_Pl := (π.1, π.2.1, π.2.2.1, π.2.2.2.1, π.2.2.2.2.1, π.2.2.2.2.2.1, len, ek, eo, π.2.2.2.2.2.2.2.2.2)
theorem s_pl.run {h h1 : s_H} {b : Nat} {π : s_Pl} {S : x_S} (q : s_pl h b π) (z : s_off3 h h1 b) (hw : s_sy h1 b π.2.2.2.2.2.1 π.2.2.2.2.2.2.1 S) : s_pl h1 b (pl_scr π π.2.2.2.2.2.2.1 S.2.1 S.2.2.1) ∧ s_disk h1 (b + 6) S.1 := by
  obtain ⟨⟨hsc, hD, hT⟩, hq⟩ := hw
  obtain ⟨hm, z1, z2⟩ := z.mid
  obtain ⟨hm2, z3, z4⟩ := z2.mid (by omega)
  have hD1 : s_disk hm2 (b + 6) S.1 := hD.off z4.sy (by omega)
  have hT1 : s_t0 hm2 (b + 68) := hT.off z4.sy (by omega)
  have q1 := q.trial z1 (hD1.off z3.sy (by omega))
  have q2 := q1.tab z3 hT1
  exact ⟨q2.scr z4 hsc, hD⟩
/-- a script's run -/
noncomputable def x_run (tx : Nat → Int32) (len : Nat) (σ : s_D) : Bool × x_S := if (x_dsk tx len σ).1 = true then x_rc0 tx len (x_dsk tx len σ).2 else (false, (x_dsk tx len σ).2)
noncomputable def pl_run (π : s_Pl) (R : Bool × x_S) : s_Pl :=
  if R.1 = true then (d_cpy R.2.1 π.1, (pl_rem (pl_scr π 0 R.2.2.1 R.2.2.2.1)).2) else pl_scr π 0 R.2.2.1 R.2.2.2.1
theorem x_run_ok {tx : Nat → Int32} {len : Nat} {σ : s_D} (h : (x_run tx len σ).1 = true) : ∃ c2 p2, d_ok (x_run tx len σ).2.1 c2 p2 := by
  unfold x_run at h ⊢
  split at h
  · rename_i h1
    rw [if_pos h1]
    obtain ⟨⟨cp, ok⟩, he⟩ := x_dsk_ok h1
    exact (x_rc0_ok _ _ _ ok (by omega)).1
  · cases h

theorem c_X8_runScript {h : s_H} {n b : Nat} {π : s_Pl} (hP : s_pl h b π) (hn : b + 93 ≤ n) (hlen : π.2.2.2.2.2.2.1 ≤ 500) (hl : π.2.2.2.2.1 ≤ 10) : s_Mt TX8_runScript 0 0 [.ref b] h n (s_rp n (fun v9 h1 => (∃ σ : s_D, v9 = some (.int (if (x_run π.2.2.2.2.2.1 π.2.2.2.2.2.2.1 σ).1 = true then (x_run π.2.2.2.2.2.1 π.2.2.2.2.2.2.1 σ).2.1.2 0 else -1)) ∧ s_pl h1 b (pl_run π (x_run π.2.2.2.2.2.1 π.2.2.2.2.2.2.1 σ))) ∧ s_off h h1 b (b + 93)) s_no) := by
  obtain ⟨hb, hD, hS, ⟨σ0, hDt0⟩, ⟨pm, hH⟩, hT, ⟨go, gl, hG, hgl, hgo⟩, ⟨nx, tk, ts, ex, hsc⟩, hR⟩ := id hP
  obtain ⟨τ, hTt, hT0⟩ := id hT
  unfold s_po at hb
  have hd := hD.1
  have hs := hsc.1
  have hk := hH.1
  have ht := hTt.1
  have hg := hG.1
  have hr := hR.1
  have htd := hDt0.1
  have hsd := hS.1
  have q1 := hD.2.1
  have q2 := hD.2.2.1
  have q3 := hD.2.2.2.1
  have q4 := hD.2.2.2.2
  have u1 := hDt0.2.1
  have u2 := hDt0.2.2.1
  have u3 := hDt0.2.2.2.1
  have u4 := hDt0.2.2.2.2
  have hoff : s_off h h b (b + 93) := s_off.rf
  refine s_Mt_of rfl (by decide) (by exact Nat.le_of_ble_eq_true rfl) ?_
  refine g_aload_n dX8_runScript_0 rfl (by rfl) ?_
  refine g_getf dX8_runScript_1 fX8_50 (by exact hb) (by omega) (by rfl) ?_
  refine g_aload_n dX8_runScript_4 rfl (by rfl) ?_
  refine g_getf dX8_runScript_5 fX8_16 (by exact hb) (by omega) (by rfl) ?_
  refine g_callV_p (c_runDisk hsc hDt0 hT hn hlen) dX8_runScript_8 (mX6_runDisk) rfl lX8_84 iX6_runDisk vX6_runDisk (by decide) (by omega) (by exact hs) rfl rfl rfl rfl (Nat.le_of_ble_eq_true rfl) (fun v9 h9 z9 => ?_)
  obtain ⟨rfl, hw, qoff3⟩ := z9
  obtain ⟨hP, hDt0⟩ := hP.run qoff3 hw
  have hoff := hoff.trans qoff3.one
  obtain ⟨hb, hD, hS, ⟨σt9, hDt9⟩, ⟨pm, hH⟩, hT, ⟨go, gl, hG, hgl, hgo⟩, ⟨nx, tk, ts, ex, hsc⟩, hR⟩ := id hP
  obtain ⟨τ, hTt, hT0⟩ := id hT
  unfold s_po at hb
  have hd := hD.1
  have hs := hsc.1
  have hk := hH.1
  have ht := hTt.1
  have hg := hG.1
  have hr := hR.1
  have htd := hDt0.1
  have hsd := hS.1
  have q1 := hD.2.1
  have q2 := hD.2.2.1
  have q3 := hD.2.2.2.1
  have q4 := hD.2.2.2.2
  have u1 := hDt0.2.1
  have u2 := hDt0.2.2.1
  have u3 := hDt0.2.2.2.1
  have u4 := hDt0.2.2.2.2
  refine g_if_eq (tgt := 37) dX8_runScript_11 (by decide) (fun c_11 => ?_) (fun c_11 => ?_)
  · obtain ⟨S, hS9⟩ : ∃ S, S = (x_dsk π.2.2.2.2.2.1 π.2.2.2.2.2.2.1 σ0).2 := ⟨_, rfl⟩
    have e : (x_run π.2.2.2.2.2.1 π.2.2.2.2.2.2.1 σ0) = (false, S) := by unfold x_run; rw [if_neg (x_bi_f c_11), hS9]
    rw [← hS9] at hP hDt0
    have hP : s_pl h9 b (pl_scr π π.2.2.2.2.2.2.1 S.2.1 S.2.2.1) := hP
    obtain ⟨hb, hD, hS, ⟨σt9, hDt9⟩, ⟨pm, hH⟩, hT, ⟨go, gl, hG, hgl, hgo⟩, ⟨nx, tk, ts, ex, hsc⟩, hR⟩ := id hP
    obtain ⟨τ, hTt, hT0⟩ := id hT
    unfold s_po at hb
    have hd := hD.1
    have hs := hsc.1
    have hk := hH.1
    have ht := hTt.1
    have hg := hG.1
    have hr := hR.1
    have htd := hDt0.1
    have hsd := hS.1
    have q1 := hD.2.1
    have q2 := hD.2.2.1
    have q3 := hD.2.2.2.1
    have q4 := hD.2.2.2.2
    have u1 := hDt0.2.1
    have u2 := hDt0.2.2.1
    have u3 := hDt0.2.2.2.1
    have u4 := hDt0.2.2.2.2
    refine g_iconst 0 dX8_runScript_37 (by rfl) ?_
    refine g_istore_n dX8_runScript_38 rfl (by decide) ?_
    refine g_aload_n dX8_runScript_39 rfl (by rfl) ?_
    refine g_getf dX8_runScript_40 fX8_50 (by exact hb) (by omega) (by rfl) ?_
    refine g_iconst 0 dX8_runScript_43 (by rfl) ?_
    refine g_putf' dX8_runScript_44 pX8_73 (by exact hs) (by omega) (by exact Nat.le_of_ble_eq_true rfl) (by rfl) (by rfl) (fun h21 e21 => ?_)
    first | have hb_21 := s_up_off e21 (by omega) hb | have hb_21 := s_up_at e21
    first | have hd_21 := s_up_off e21 (by omega) hd | have hd_21 := s_up_at e21
    first | have htd_21 := s_up_off e21 (by omega) htd | have htd_21 := s_up_at e21
    first | have hsd_21 := s_up_off e21 (by omega) hsd | have hsd_21 := s_up_at e21
    first | have hs_21 := s_up_off e21 (by omega) hs | have hs_21 := s_up_at e21
    first | have hk_21 := s_up_off e21 (by omega) hk | have hk_21 := s_up_at e21
    first | have ht_21 := s_up_off e21 (by omega) ht | have ht_21 := s_up_at e21
    first | have hg_21 := s_up_off e21 (by omega) hg | have hg_21 := s_up_at e21
    first | have hr_21 := s_up_off e21 (by omega) hr | have hr_21 := s_up_at e21
    first | have q1_21 := s_up_off e21 (by omega) q1 | have q1_21 := s_up_at e21
    first | have q2_21 := s_up_off e21 (by omega) q2 | have q2_21 := s_up_at e21
    first | have q3_21 := s_up_off e21 (by omega) q3 | have q3_21 := s_up_at e21
    first | have q4_21 := s_up_off e21 (by omega) q4 | have q4_21 := s_up_at e21
    first | have u1_21 := s_up_off e21 (by omega) u1 | have u1_21 := s_up_at e21
    first | have u2_21 := s_up_off e21 (by omega) u2 | have u2_21 := s_up_at e21
    first | have u3_21 := s_up_off e21 (by omega) u3 | have u3_21 := s_up_at e21
    first | have u4_21 := s_up_off e21 (by omega) u4 | have u4_21 := s_up_at e21
    have hsc1 : s_sc h21 (b + 89) π.2.2.2.2.2.1 0 S.2.1 S.2.2.1 nx tk ts ex := ⟨hs_21, s_up_off e21 (by omega) hsc.2⟩
    have qoff : s_off h9 h21 (b + 89) (b + 91) := s_off.rf.up e21 (by omega)
    have hP : s_pl h21 b (pl_scr π 0 S.2.1 S.2.2.1) := hP.scr qoff hsc1
    have hDt0 := hDt0.off qoff (by omega)
    have hoff := hoff.trans (qoff.wide (a := _) (b := _) (a' := b) (b' := b + 93) (by omega) (by omega))
    obtain ⟨hb, hD, hS, ⟨σt9, hDt9⟩, ⟨pm, hH⟩, hT, ⟨go, gl, hG, hgl, hgo⟩, ⟨nx, tk, ts, ex, hsc⟩, hR⟩ := id hP
    obtain ⟨τ, hTt, hT0⟩ := id hT
    unfold s_po at hb
    have hd := hD.1
    have hs := hsc.1
    have hk := hH.1
    have ht := hTt.1
    have hg := hG.1
    have hr := hR.1
    have htd := hDt0.1
    have hsd := hS.1
    have q1 := hD.2.1
    have q2 := hD.2.2.1
    have q3 := hD.2.2.2.1
    have q4 := hD.2.2.2.2
    have u1 := hDt0.2.1
    have u2 := hDt0.2.2.1
    have u3 := hDt0.2.2.2.1
    have u4 := hDt0.2.2.2.2
    refine g_iload_n dX8_runScript_47 rfl (by rfl) ?_
    refine g_if_ne (tgt := 53) dX8_runScript_48 (by decide) (fun c_48 => absurd rfl c_48) (fun _ => ?_)
    refine g_iconst (-1) dX8_runScript_51 (by rfl) ?_
    refine g_ireturn dX8_runScript_52 rfl ?_
    exact ⟨rfl, ⟨σ0, by rw [e]; rfl, by rw [e]; exact hP⟩, hoff⟩
  · obtain ⟨⟨cp9, okd⟩, hex⟩ := x_dsk_ok (x_bi_t c_11)
    have hran := x_bi_t c_11
    refine g_aload_n dX8_runScript_14 rfl (by rfl) ?_
    refine g_getf dX8_runScript_15 fX8_50 (by exact hb) (by omega) (by rfl) ?_
    refine g_aload_n dX8_runScript_18 rfl (by rfl) ?_
    refine g_getf dX8_runScript_19 fX8_16 (by exact hb) (by omega) (by rfl) ?_
    refine g_aload_n dX8_runScript_22 rfl (by rfl) ?_
    refine g_getf dX8_runScript_23 fX8_36 (by exact hb) (by omega) (by rfl) ?_
    refine g_iconst (nI 0) dX8_runScript_26 (by rfl) ?_
    refine g_callVN_p (c_rc0 hn hlen h9 (x_dsk π.2.2.2.2.2.1 π.2.2.2.2.2.2.1 σ0).2 0 cp9 hw okd (by omega)) dX8_runScript_27 (mX6_runCommands _) rfl lX8_88 iX6_runCommands vX6_runCommands (by decide) (by omega) (by exact hs) rfl rfl rfl rfl (Nat.le_of_ble_eq_true rfl) (fun v9 h9 z9 => ?_)
    obtain ⟨rfl, hw, qoff3⟩ := z9
    obtain ⟨hP, hDt0⟩ := hP.run qoff3 hw
    have hoff := hoff.trans qoff3.one
    obtain ⟨S, hS9⟩ : ∃ S, S = (x_rc0 π.2.2.2.2.2.1 π.2.2.2.2.2.2.1 (x_dsk π.2.2.2.2.2.1 π.2.2.2.2.2.2.1 σ0).2).2 := ⟨_, rfl⟩
    rw [← hS9] at hP hDt0
    have hP : s_pl h9 b (pl_scr π π.2.2.2.2.2.2.1 S.2.1 S.2.2.1) := hP
    obtain ⟨hb, hD, hS, ⟨σt9, hDt9⟩, ⟨pm, hH⟩, hT, ⟨go, gl, hG, hgl, hgo⟩, ⟨nx, tk, ts, ex, hsc⟩, hR⟩ := id hP
    obtain ⟨τ, hTt, hT0⟩ := id hT
    unfold s_po at hb
    have hd := hD.1
    have hs := hsc.1
    have hk := hH.1
    have ht := hTt.1
    have hg := hG.1
    have hr := hR.1
    have htd := hDt0.1
    have hsd := hS.1
    have q1 := hD.2.1
    have q2 := hD.2.2.1
    have q3 := hD.2.2.2.1
    have q4 := hD.2.2.2.2
    have u1 := hDt0.2.1
    have u2 := hDt0.2.2.1
    have u3 := hDt0.2.2.2.1
    have u4 := hDt0.2.2.2.2
    refine g_if_eq (tgt := 37) dX8_runScript_30 (by decide) (fun c_30 => ?_) (fun c_30 => ?_)
    · have e : (x_run π.2.2.2.2.2.1 π.2.2.2.2.2.2.1 σ0) = (false, S) := by unfold x_run; rw [if_pos hran, hS9]; exact Prod.ext (Bool.eq_false_iff.mpr (x_bi_f c_30)) rfl
      refine g_iconst 0 dX8_runScript_37 (by rfl) ?_
      refine g_istore_n dX8_runScript_38 rfl (by decide) ?_
      refine g_aload_n dX8_runScript_39 rfl (by rfl) ?_
      refine g_getf dX8_runScript_40 fX8_50 (by exact hb) (by omega) (by rfl) ?_
      refine g_iconst 0 dX8_runScript_43 (by rfl) ?_
      refine g_putf' dX8_runScript_44 pX8_73 (by exact hs) (by omega) (by exact Nat.le_of_ble_eq_true rfl) (by rfl) (by rfl) (fun h21 e21 => ?_)
      first | have hb_21 := s_up_off e21 (by omega) hb | have hb_21 := s_up_at e21
      first | have hd_21 := s_up_off e21 (by omega) hd | have hd_21 := s_up_at e21
      first | have htd_21 := s_up_off e21 (by omega) htd | have htd_21 := s_up_at e21
      first | have hsd_21 := s_up_off e21 (by omega) hsd | have hsd_21 := s_up_at e21
      first | have hs_21 := s_up_off e21 (by omega) hs | have hs_21 := s_up_at e21
      first | have hk_21 := s_up_off e21 (by omega) hk | have hk_21 := s_up_at e21
      first | have ht_21 := s_up_off e21 (by omega) ht | have ht_21 := s_up_at e21
      first | have hg_21 := s_up_off e21 (by omega) hg | have hg_21 := s_up_at e21
      first | have hr_21 := s_up_off e21 (by omega) hr | have hr_21 := s_up_at e21
      first | have q1_21 := s_up_off e21 (by omega) q1 | have q1_21 := s_up_at e21
      first | have q2_21 := s_up_off e21 (by omega) q2 | have q2_21 := s_up_at e21
      first | have q3_21 := s_up_off e21 (by omega) q3 | have q3_21 := s_up_at e21
      first | have q4_21 := s_up_off e21 (by omega) q4 | have q4_21 := s_up_at e21
      first | have u1_21 := s_up_off e21 (by omega) u1 | have u1_21 := s_up_at e21
      first | have u2_21 := s_up_off e21 (by omega) u2 | have u2_21 := s_up_at e21
      first | have u3_21 := s_up_off e21 (by omega) u3 | have u3_21 := s_up_at e21
      first | have u4_21 := s_up_off e21 (by omega) u4 | have u4_21 := s_up_at e21
      have hsc1 : s_sc h21 (b + 89) π.2.2.2.2.2.1 0 S.2.1 S.2.2.1 nx tk ts ex := ⟨hs_21, s_up_off e21 (by omega) hsc.2⟩
      have qoff : s_off h9 h21 (b + 89) (b + 91) := s_off.rf.up e21 (by omega)
      have hP : s_pl h21 b (pl_scr π 0 S.2.1 S.2.2.1) := hP.scr qoff hsc1
      have hDt0 := hDt0.off qoff (by omega)
      have hoff := hoff.trans (qoff.wide (a := _) (b := _) (a' := b) (b' := b + 93) (by omega) (by omega))
      obtain ⟨hb, hD, hS, ⟨σt9, hDt9⟩, ⟨pm, hH⟩, hT, ⟨go, gl, hG, hgl, hgo⟩, ⟨nx, tk, ts, ex, hsc⟩, hR⟩ := id hP
      obtain ⟨τ, hTt, hT0⟩ := id hT
      unfold s_po at hb
      have hd := hD.1
      have hs := hsc.1
      have hk := hH.1
      have ht := hTt.1
      have hg := hG.1
      have hr := hR.1
      have htd := hDt0.1
      have hsd := hS.1
      have q1 := hD.2.1
      have q2 := hD.2.2.1
      have q3 := hD.2.2.2.1
      have q4 := hD.2.2.2.2
      have u1 := hDt0.2.1
      have u2 := hDt0.2.2.1
      have u3 := hDt0.2.2.2.1
      have u4 := hDt0.2.2.2.2
      refine g_iload_n dX8_runScript_47 rfl (by rfl) ?_
      refine g_if_ne (tgt := 53) dX8_runScript_48 (by decide) (fun c_48 => absurd rfl c_48) (fun _ => ?_)
      refine g_iconst (-1) dX8_runScript_51 (by rfl) ?_
      refine g_ireturn dX8_runScript_52 rfl ?_
      exact ⟨rfl, ⟨σ0, by rw [e]; rfl, by rw [e]; exact hP⟩, hoff⟩
    · have e : (x_run π.2.2.2.2.2.1 π.2.2.2.2.2.2.1 σ0) = (true, S) := by unfold x_run; rw [if_pos hran, hS9]; exact Prod.ext (x_bi_t c_30) rfl
      refine g_iconst 1 dX8_runScript_33 (by rfl) ?_
      refine g_goto (tgt := 38) dX8_runScript_34 (by decide) ?_
      refine g_istore_n dX8_runScript_38 rfl (by decide) ?_
      refine g_aload_n dX8_runScript_39 rfl (by rfl) ?_
      refine g_getf dX8_runScript_40 fX8_50 (by exact hb) (by omega) (by rfl) ?_
      refine g_iconst 0 dX8_runScript_43 (by rfl) ?_
      refine g_putf' dX8_runScript_44 pX8_73 (by exact hs) (by omega) (by exact Nat.le_of_ble_eq_true rfl) (by rfl) (by rfl) (fun h21 e21 => ?_)
      first | have hb_21 := s_up_off e21 (by omega) hb | have hb_21 := s_up_at e21
      first | have hd_21 := s_up_off e21 (by omega) hd | have hd_21 := s_up_at e21
      first | have htd_21 := s_up_off e21 (by omega) htd | have htd_21 := s_up_at e21
      first | have hsd_21 := s_up_off e21 (by omega) hsd | have hsd_21 := s_up_at e21
      first | have hs_21 := s_up_off e21 (by omega) hs | have hs_21 := s_up_at e21
      first | have hk_21 := s_up_off e21 (by omega) hk | have hk_21 := s_up_at e21
      first | have ht_21 := s_up_off e21 (by omega) ht | have ht_21 := s_up_at e21
      first | have hg_21 := s_up_off e21 (by omega) hg | have hg_21 := s_up_at e21
      first | have hr_21 := s_up_off e21 (by omega) hr | have hr_21 := s_up_at e21
      first | have q1_21 := s_up_off e21 (by omega) q1 | have q1_21 := s_up_at e21
      first | have q2_21 := s_up_off e21 (by omega) q2 | have q2_21 := s_up_at e21
      first | have q3_21 := s_up_off e21 (by omega) q3 | have q3_21 := s_up_at e21
      first | have q4_21 := s_up_off e21 (by omega) q4 | have q4_21 := s_up_at e21
      first | have u1_21 := s_up_off e21 (by omega) u1 | have u1_21 := s_up_at e21
      first | have u2_21 := s_up_off e21 (by omega) u2 | have u2_21 := s_up_at e21
      first | have u3_21 := s_up_off e21 (by omega) u3 | have u3_21 := s_up_at e21
      first | have u4_21 := s_up_off e21 (by omega) u4 | have u4_21 := s_up_at e21
      have hsc1 : s_sc h21 (b + 89) π.2.2.2.2.2.1 0 S.2.1 S.2.2.1 nx tk ts ex := ⟨hs_21, s_up_off e21 (by omega) hsc.2⟩
      have qoff : s_off h9 h21 (b + 89) (b + 91) := s_off.rf.up e21 (by omega)
      have hP : s_pl h21 b (pl_scr π 0 S.2.1 S.2.2.1) := hP.scr qoff hsc1
      have hDt0 := hDt0.off qoff (by omega)
      have hoff := hoff.trans (qoff.wide (a := _) (b := _) (a' := b) (b' := b + 93) (by omega) (by omega))
      obtain ⟨hb, hD, hS, ⟨σt9, hDt9⟩, ⟨pm, hH⟩, hT, ⟨go, gl, hG, hgl, hgo⟩, ⟨nx, tk, ts, ex, hsc⟩, hR⟩ := id hP
      obtain ⟨τ, hTt, hT0⟩ := id hT
      unfold s_po at hb
      have hd := hD.1
      have hs := hsc.1
      have hk := hH.1
      have ht := hTt.1
      have hg := hG.1
      have hr := hR.1
      have htd := hDt0.1
      have hsd := hS.1
      have q1 := hD.2.1
      have q2 := hD.2.2.1
      have q3 := hD.2.2.2.1
      have q4 := hD.2.2.2.2
      have u1 := hDt0.2.1
      have u2 := hDt0.2.2.1
      have u3 := hDt0.2.2.2.1
      have u4 := hDt0.2.2.2.2
      refine g_iload_n dX8_runScript_47 rfl (by rfl) ?_
      refine g_if_ne (tgt := 53) dX8_runScript_48 (by decide) (fun _ => ?_) (fun c_48 => absurd c_48 (by decide))
      refine g_aload_n dX8_runScript_53 rfl (by rfl) ?_
      refine g_getf dX8_runScript_54 fX8_29 (by exact hb) (by omega) (by rfl) ?_
      refine g_aload_n dX8_runScript_57 rfl (by rfl) ?_
      refine g_getf dX8_runScript_58 fX8_12 (by exact hb) (by omega) (by rfl) ?_
      refine g_callV_p (c_X4_remember hH (by omega) hD (by omega) (by omega) hl) dX8_runScript_61 (mX4_remember) rfl lX8_92 iX4_remember vX4_remember (by decide) (by omega) (by exact hk) rfl rfl rfl rfl (Nat.le_of_ble_eq_true rfl) (fun v9 h9 z9 => ?_)
      obtain ⟨rfl, qh, qoff⟩ := z9
      have hP : s_pl h9 b (pl_rem (pl_scr π 0 S.2.1 S.2.2.1)) := hP.hist qoff qh
      have hDt0 := hDt0.off qoff (by omega)
      have hoff := hoff.trans (qoff.wide (a := _) (b := _) (a' := b) (b' := b + 93) (by omega) (by omega))
      obtain ⟨hb, hD, hS, ⟨σt9, hDt9⟩, ⟨pm, hH⟩, hT, ⟨go, gl, hG, hgl, hgo⟩, ⟨nx, tk, ts, ex, hsc⟩, hR⟩ := id hP
      obtain ⟨τ, hTt, hT0⟩ := id hT
      unfold s_po at hb
      have hd := hD.1
      have hs := hsc.1
      have hk := hH.1
      have ht := hTt.1
      have hg := hG.1
      have hr := hR.1
      have htd := hDt0.1
      have hsd := hS.1
      have q1 := hD.2.1
      have q2 := hD.2.2.1
      have q3 := hD.2.2.2.1
      have q4 := hD.2.2.2.2
      have u1 := hDt0.2.1
      have u2 := hDt0.2.2.1
      have u3 := hDt0.2.2.2.1
      have u4 := hDt0.2.2.2.2
      refine g_aload_n dX8_runScript_64 rfl (by rfl) ?_
      refine g_getf dX8_runScript_65 fX8_12 (by exact hb) (by omega) (by rfl) ?_
      refine g_aload_n dX8_runScript_68 rfl (by rfl) ?_
      refine g_getf dX8_runScript_69 fX8_16 (by exact hb) (by omega) (by rfl) ?_
      refine g_callV_p (c_X2_copyFrom hD hDt0 (by omega) (by omega) (by omega)) dX8_runScript_72 (mX2_copyFrom) rfl lX8_96 iX2_copyFrom vX2_copyFrom (by decide) (by omega) (by first | exact hd | exact htd | exact hsd) rfl rfl rfl rfl (Nat.le_of_ble_eq_true rfl) (fun v9 h9 z9 => ?_)
      obtain ⟨rfl, qd, qoff⟩ := z9
      have hP := hP.disk qoff qd
      have hDt0 := hDt0.off qoff (by omega)
      have hoff := hoff.trans (qoff.wide (a := _) (b := _) (a' := b) (b' := b + 93) (by omega) (by omega))
      obtain ⟨hb, hD, hS, ⟨σt9, hDt9⟩, ⟨pm, hH⟩, hT, ⟨go, gl, hG, hgl, hgo⟩, ⟨nx, tk, ts, ex, hsc⟩, hR⟩ := id hP
      obtain ⟨τ, hTt, hT0⟩ := id hT
      unfold s_po at hb
      have hd := hD.1
      have hs := hsc.1
      have hk := hH.1
      have ht := hTt.1
      have hg := hG.1
      have hr := hR.1
      have htd := hDt0.1
      have hsd := hS.1
      have q1 := hD.2.1
      have q2 := hD.2.2.1
      have q3 := hD.2.2.2.1
      have q4 := hD.2.2.2.2
      have u1 := hDt0.2.1
      have u2 := hDt0.2.2.1
      have u3 := hDt0.2.2.2.1
      have u4 := hDt0.2.2.2.2
      refine g_aload_n dX8_runScript_75 rfl (by rfl) ?_
      refine g_getf dX8_runScript_76 fX8_12 (by exact hb) (by omega) (by rfl) ?_
      refine g_getf dX8_runScript_79 fX8_99 (by first | exact hd | exact htd | exact hsd) (by omega) (by rfl) ?_
      refine g_ireturn dX8_runScript_82 rfl ?_
      exact ⟨rfl, ⟨σ0, by rw [e]; rfl, by rw [e]; exact hP⟩, hoff⟩
