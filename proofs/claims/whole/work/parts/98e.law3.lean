/-! THE LAW'S HELPERS: the rest -/
theorem wl_46 : Cond.classLink RL 46 "java/lang/IllegalStateException" ∈ s_WL := s_WL_of 923 (by decide +kernel) rfl
theorem wl_54 : Cond.classLink RL 54 "java/util/NoSuchElementException" ∈ s_WL := s_WL_of 959 (by decide +kernel) rfl

theorem c_L_pinBest {h : s_H} {n b o : Nat} {π : s_Pl} {f : Nat → Int64} (hP : s_pl h b π) (hn : b + 93 ≤ n) (ho : h o = .inl (1, 1, .inr (.inl f))) (hon : o < n) (hob : o < b ∨ b + 93 ≤ o) {cnt cp : Nat} (ok : d_ok π.1 cnt cp) (hl : π.2.2.2.2.1 ≤ 10) : s_Mt TL_pinBest 1 6 [.ref b, .ref o] h n (s_rp n (fun v9 h1 => (((¬ u_best π.1 cnt cp = r_NP) ∧ v9 = some (.int 0) ∧ s_pl h1 b (d_kps π.1 (r_st (u_best π.1 cnt cp)) cnt, (pl_rem π).2) ∧ ∃ f1, h1 o = .inl (1, 1, .inr (.inl f1)) ∧ f1 0 = (((nI (d_kc (π.1.1 3) (r_st (u_best π.1 cnt cp)) cnt))) : Int32).toInt64) ∨ (¬ (¬ u_best π.1 cnt cp = r_NP) ∧ v9 = some (.int 1) ∧ s_pl h1 b π ∧ ∃ f1, h1 o = .inl (1, 1, .inr (.inl f1)))) ∧ s_off2 h h1 b (b + 93) o (o + 1)) s_no) := by
  have hb := hP.1
  unfold s_po at hb
  have kx : ∀ h9, s_pl h9 b π → s_off h h9 b (b + 93) → ¬ (¬ u_best π.1 cnt cp = r_NP) → s_G TL_pinBest (s_rp n (fun v9 h1 => (((¬ u_best π.1 cnt cp = r_NP) ∧ v9 = some (.int 0) ∧ s_pl h1 b (d_kps π.1 (r_st (u_best π.1 cnt cp)) cnt, (pl_rem π).2) ∧ ∃ f1, h1 o = .inl (1, 1, .inr (.inl f1)) ∧ f1 0 = (((nI (d_kc (π.1.1 3) (r_st (u_best π.1 cnt cp)) cnt))) : Int32).toInt64) ∨ (¬ (¬ u_best π.1 cnt cp = r_NP) ∧ v9 = some (.int 1) ∧ s_pl h1 b π ∧ ∃ f1, h1 o = .inl (1, 1, .inr (.inl f1)))) ∧ s_off2 h h1 b (b + 93) o (o + 1)) s_no) 12 (fun _ => none) [] h9 n 0 0 := by
    intro h9 hP9 q9 hno
    refine g_iconst 1 dL_pinBest_12 (by rfl) ?_
    refine g_ireturn dL_pinBest_13 rfl ?_
    exact ⟨rfl, Or.inr ⟨hno, rfl, hP9, f, (q9 o (by omega)).trans ho⟩, fun j a _ => q9 j a⟩
  refine s_Mt_ofH rfl (by decide) (by exact Nat.le_of_ble_eq_true rfl) ?_
  refine g_aload_n dL_pinBest_0 rfl (by rfl) ?_
  refine g_iconst (nI 0) dL_pinBest_1 (by rfl) ?_
  refine g_aload_n dL_pinBest_2 rfl (by rfl) ?_
  refine g_callV_x (c_X8_pinBest hP hn ok hl) dL_pinBest_3 (mX8_pinBest) rfl lL_42 iX8_pinBest vX8_pinBest (by decide) (by omega) (by exact hb) rfl rfl rfl rfl (Nat.le_of_ble_eq_true rfl) (Nat.le_of_ble_eq_true rfl) (Nat.le_of_ble_eq_true rfl) (fun v9 h9 z9 => ?_) (fun E9 h9 z9 => by obtain ⟨rfl, hP9, q9, hno⟩ := z9; exact g_catch [] (0, 8, 11, 46) [] rfl (fun z hz => by cases hz) (by decide) (by decide) wl_46 (by decide) (Or.inl ⟨2, dL_pinBest_11, rfl, rfl⟩) (by decide) (kx h9 hP9 q9 (fun z => z hno)))
  obtain ⟨rfl, hP, qoff, hin⟩ := z9
  have ho := (qoff o (by omega)).trans ho
  refine g_i2l dL_pinBest_6 ?_
  refine g_last' dL_pinBest_7 (by exact ho) (by omega) (by rfl) (by omega) (by omega) (fun h1 e1 => ?_)
  first | have hb_1 := s_up_off e1 (by omega) hb | have hb_1 := s_up_at e1
  first | have ho_1 := s_up_off e1 (by omega) ho | have ho_1 := s_up_at e1
  refine g_goto (tgt := 14) dL_pinBest_8 (by decide) ?_
  refine g_iconst 0 dL_pinBest_14 (by rfl) ?_
  refine g_ireturn dL_pinBest_15 rfl ?_
  exact ⟨rfl, Or.inl ⟨hin, rfl, hP.off (((s_off.rf (a := o) (b := (o + 1))).up e1 (by omega))) (by omega), _, ho_1, rfl⟩, fun j a c => ((((s_off.rf (a := o) (b := (o + 1))).up e1 (by omega))) j c).trans (qoff j a)⟩

theorem c_L_restoreSnapshot {h : s_H} {n b o : Nat} {π : s_Pl} {f : Nat → Int64} (hP : s_pl h b π) (hn : b + 93 ≤ n) (ho : h o = .inl (1, 1, .inr (.inl f))) (hon : o < n) (hob : o < b ∨ b + 93 ≤ o) : s_Mt TL_restoreSnapshot 1 6 [.ref b, .ref o] h n (s_rp n (fun v9 h1 => (((¬ π.2.2.1 = 0) ∧ v9 = some (.int 0) ∧ s_pl h1 b (d_cpy π.2.1 π.1, π.2.1, π.2.2.1, π.2.2.2.1, 0, π.2.2.2.2.2) ∧ ∃ f1, h1 o = .inl (1, 1, .inr (.inl f1)) ∧ f1 0 = (((π.2.1.2 0)) : Int32).toInt64) ∨ (¬ (¬ π.2.2.1 = 0) ∧ v9 = some (.int 1) ∧ s_pl h1 b π ∧ ∃ f1, h1 o = .inl (1, 1, .inr (.inl f1)))) ∧ s_off2 h h1 b (b + 93) o (o + 1)) s_no) := by
  have hb := hP.1
  unfold s_po at hb
  have kx : ¬ (¬ π.2.2.1 = 0) → s_G TL_restoreSnapshot (s_rp n (fun v9 h1 => (((¬ π.2.2.1 = 0) ∧ v9 = some (.int 0) ∧ s_pl h1 b (d_cpy π.2.1 π.1, π.2.1, π.2.2.1, π.2.2.2.1, 0, π.2.2.2.2.2) ∧ ∃ f1, h1 o = .inl (1, 1, .inr (.inl f1)) ∧ f1 0 = (((π.2.1.2 0)) : Int32).toInt64) ∨ (¬ (¬ π.2.2.1 = 0) ∧ v9 = some (.int 1) ∧ s_pl h1 b π ∧ ∃ f1, h1 o = .inl (1, 1, .inr (.inl f1)))) ∧ s_off2 h h1 b (b + 93) o (o + 1)) s_no) 12 (fun _ => none) [] h n 0 0 := by
    intro hno
    refine g_iconst 1 dL_restoreSnapshot_12 (by rfl) ?_
    refine g_ireturn dL_restoreSnapshot_13 rfl ?_
    exact ⟨rfl, Or.inr ⟨hno, rfl, hP, f, ho⟩, fun _ _ _ => rfl⟩
  refine s_Mt_ofH rfl (by decide) (by exact Nat.le_of_ble_eq_true rfl) ?_
  refine g_aload_n dL_restoreSnapshot_0 rfl (by rfl) ?_
  refine g_iconst (nI 0) dL_restoreSnapshot_1 (by rfl) ?_
  refine g_aload_n dL_restoreSnapshot_2 rfl (by rfl) ?_
  refine g_callV_x (c_X8_restoreSnapshot hP hn) dL_restoreSnapshot_3 (mX8_restoreSnapshot) rfl lL_51 iX8_restoreSnapshot vX8_restoreSnapshot (by decide) (by omega) (by exact hb) rfl rfl rfl rfl (Nat.le_of_ble_eq_true rfl) (Nat.le_of_ble_eq_true rfl) (Nat.le_of_ble_eq_true rfl) (fun v9 h9 z9 => ?_) (fun E9 h9 z9 => by obtain ⟨rfl, rfl, hno⟩ := z9; exact g_catch [] (0, 8, 11, 54) [] rfl (fun z hz => by cases hz) (by decide) (by decide) wl_54 (by decide) (Or.inl ⟨2, dL_restoreSnapshot_11, rfl, rfl⟩) (by decide) (kx (fun z => z hno)))
  obtain ⟨rfl, hP, qoff, hin⟩ := z9
  have ho := (qoff o (by omega)).trans ho
  refine g_i2l dL_restoreSnapshot_6 ?_
  refine g_last' dL_restoreSnapshot_7 (by exact ho) (by omega) (by rfl) (by omega) (by omega) (fun h1 e1 => ?_)
  first | have hb_1 := s_up_off e1 (by omega) hb | have hb_1 := s_up_at e1
  first | have ho_1 := s_up_off e1 (by omega) ho | have ho_1 := s_up_at e1
  refine g_goto (tgt := 14) dL_restoreSnapshot_8 (by decide) ?_
  refine g_iconst 0 dL_restoreSnapshot_14 (by rfl) ?_
  refine g_ireturn dL_restoreSnapshot_15 rfl ?_
  exact ⟨rfl, Or.inl ⟨hin, rfl, hP.off (((s_off.rf (a := o) (b := (o + 1))).up e1 (by omega))) (by omega), _, ho_1, rfl⟩, fun j a c => ((((s_off.rf (a := o) (b := (o + 1))).up e1 (by omega))) j c).trans (qoff j a)⟩

theorem c_L_isTaken {h : s_H} {n b o : Nat} {π : s_Pl} {f : Nat → Int64} (hP : s_pl h b π) (hn : b + 93 ≤ n) (ho : h o = .inl (1, 1, .inr (.inl f))) (hon : o < n) (hob : o < b ∨ b + 93 ≤ o) {cnt cp : Nat} (ok : d_ok π.1 cnt cp) (x : Int32) : s_Mt TL_isTaken 1 6 [.ref b, .int x, .ref o] h n (s_rp n (fun v9 h1 => (((s_in π x) ∧ v9 = some (.int 0) ∧ s_pl h1 b π ∧ ∃ f1, h1 o = .inl (1, 1, .inr (.inl f1)) ∧ f1 0 = (((if s_bit (r_se (u_best π.1 cnt cp)) x = 0 then 0 else 1)) : Int32).toInt64) ∨ (¬ (s_in π x) ∧ v9 = some (.int 1) ∧ s_pl h1 b π ∧ ∃ f1, h1 o = .inl (1, 1, .inr (.inl f1)))) ∧ s_off2 h h1 b (b + 93) o (o + 1)) s_no) := by
  have hb := hP.1
  unfold s_po at hb
  have kx : ¬ (s_in π x) → s_G TL_isTaken (s_rp n (fun v9 h1 => (((s_in π x) ∧ v9 = some (.int 0) ∧ s_pl h1 b π ∧ ∃ f1, h1 o = .inl (1, 1, .inr (.inl f1)) ∧ f1 0 = (((if s_bit (r_se (u_best π.1 cnt cp)) x = 0 then 0 else 1)) : Int32).toInt64) ∨ (¬ (s_in π x) ∧ v9 = some (.int 1) ∧ s_pl h1 b π ∧ ∃ f1, h1 o = .inl (1, 1, .inr (.inl f1)))) ∧ s_off2 h h1 b (b + 93) o (o + 1)) s_no) 20 (fun _ => none) [] h n 0 0 := by
    intro hno
    refine g_iconst 1 dL_isTaken_20 (by rfl) ?_
    refine g_ireturn dL_isTaken_21 rfl ?_
    exact ⟨rfl, Or.inr ⟨hno, rfl, hP, f, ho⟩, fun _ _ _ => rfl⟩
  refine s_Mt_ofH rfl (by decide) (by exact Nat.le_of_ble_eq_true rfl) ?_
  refine g_aload_n dL_isTaken_0 rfl (by rfl) ?_
  refine g_iconst (nI 0) dL_isTaken_1 (by rfl) ?_
  refine g_aload_n dL_isTaken_2 rfl (by rfl) ?_
  refine g_iload_n dL_isTaken_3 rfl (by rfl) ?_
  refine g_callV_x (c_X8_isTaken hP hn ok x) dL_isTaken_4 (mX8_isTaken) rfl lL_71 iX8_isTaken vX8_isTaken (by decide) (by omega) (by exact hb) rfl rfl rfl rfl (Nat.le_of_ble_eq_true rfl) (Nat.le_of_ble_eq_true rfl) (Nat.le_of_ble_eq_true rfl) (fun v9 h9 z9 => ?_) (fun E9 h9 z9 => by obtain ⟨rfl, rfl, hno⟩ := z9; exact g_catch [] (0, 16, 19, 22) [] rfl (fun z hz => by cases hz) (by decide) (by decide) wl_22 (by decide) (Or.inl ⟨3, dL_isTaken_19, rfl, rfl⟩) (by decide) (kx hno))
  obtain ⟨rfl, hP, qoff, hin⟩ := z9
  have ho := (qoff o (by omega)).trans ho
  refine g_if_eq (tgt := 14) dL_isTaken_7 (by decide) (fun c_7 => ?_) (fun c_7 => ?_)
  · have heq : (0 : Int64) = (((if s_bit (r_se (u_best π.1 cnt cp)) x = 0 then 0 else 1)) : Int32).toInt64 := by rw [c_7]; rfl
    refine g_lconst 0 dL_isTaken_14 (by rfl) ?_
    refine g_last' dL_isTaken_15 (by exact ho) (by omega) (by rfl) (by omega) (by omega) (fun h1 e1 => ?_)
    first | have hb_1 := s_up_off e1 (by omega) hb | have hb_1 := s_up_at e1
    first | have ho_1 := s_up_off e1 (by omega) ho | have ho_1 := s_up_at e1
    refine g_goto (tgt := 22) dL_isTaken_16 (by decide) ?_
    refine g_iconst 0 dL_isTaken_22 (by rfl) ?_
    refine g_ireturn dL_isTaken_23 rfl ?_
    exact ⟨rfl, Or.inl ⟨hin, rfl, hP.off (((s_off.rf (a := o) (b := (o + 1))).up e1 (by omega))) (by omega), _, ho_1, heq⟩, fun j a c => ((((s_off.rf (a := o) (b := (o + 1))).up e1 (by omega))) j c).trans (qoff j a)⟩
  · have heq : (1 : Int64) = (((if s_bit (r_se (u_best π.1 cnt cp)) x = 0 then 0 else 1)) : Int32).toInt64 := by
      revert c_7
      split
      all_goals first | (intro z; exact absurd rfl z) | (intro _; rfl)
    refine g_lconst 1 dL_isTaken_10 (by rfl) ?_
    refine g_goto (tgt := 15) dL_isTaken_11 (by decide) ?_
    refine g_last' dL_isTaken_15 (by exact ho) (by omega) (by rfl) (by omega) (by omega) (fun h2 e2 => ?_)
    first | have hb_2 := s_up_off e2 (by omega) hb | have hb_2 := s_up_at e2
    first | have ho_2 := s_up_off e2 (by omega) ho | have ho_2 := s_up_at e2
    refine g_goto (tgt := 22) dL_isTaken_16 (by decide) ?_
    refine g_iconst 0 dL_isTaken_22 (by rfl) ?_
    refine g_ireturn dL_isTaken_23 rfl ?_
    exact ⟨rfl, Or.inl ⟨hin, rfl, hP.off (((s_off.rf (a := o) (b := (o + 1))).up e2 (by omega))) (by omega), _, ho_2, heq⟩, fun j a c => ((((s_off.rf (a := o) (b := (o + 1))).up e2 (by omega))) j c).trans (qoff j a)⟩

theorem c_L_isRaised {h : s_H} {n b o : Nat} {π : s_Pl} {f : Nat → Int64} (hP : s_pl h b π) (hn : b + 93 ≤ n) (ho : h o = .inl (1, 1, .inr (.inl f))) (hon : o < n) (hob : o < b ∨ b + 93 ≤ o) {cnt cp : Nat} (ok : d_ok π.1 cnt cp) (x y : Int32) : s_Mt TL_isRaised 1 6 [.ref b, .int x, .int y, .ref o] h n (s_rp n (fun v9 h1 => (((¬ (x < 1 ∨ s_bc (d_set π.1 0 cnt) < x ∨ y < 0 ∨ 100 < y)) ∧ v9 = some (.int 0) ∧ s_pl h1 b π ∧ ∃ f1, h1 o = .inl (1, 1, .inr (.inl f1)) ∧ f1 0 = (((if u_cell π.1 cnt (x.toNatClampNeg - 1) y.toNatClampNeg < u_cell π.1 cnt x.toNatClampNeg y.toNatClampNeg then 1 else 0)) : Int32).toInt64) ∨ (¬ (¬ (x < 1 ∨ s_bc (d_set π.1 0 cnt) < x ∨ y < 0 ∨ 100 < y)) ∧ v9 = some (.int 1) ∧ s_pl h1 b π ∧ ∃ f1, h1 o = .inl (1, 1, .inr (.inl f1)))) ∧ s_off2 h h1 b (b + 93) o (o + 1)) s_no) := by
  have hb := hP.1
  unfold s_po at hb
  have kx : ¬ (¬ (x < 1 ∨ s_bc (d_set π.1 0 cnt) < x ∨ y < 0 ∨ 100 < y)) → s_G TL_isRaised (s_rp n (fun v9 h1 => (((¬ (x < 1 ∨ s_bc (d_set π.1 0 cnt) < x ∨ y < 0 ∨ 100 < y)) ∧ v9 = some (.int 0) ∧ s_pl h1 b π ∧ ∃ f1, h1 o = .inl (1, 1, .inr (.inl f1)) ∧ f1 0 = (((if u_cell π.1 cnt (x.toNatClampNeg - 1) y.toNatClampNeg < u_cell π.1 cnt x.toNatClampNeg y.toNatClampNeg then 1 else 0)) : Int32).toInt64) ∨ (¬ (¬ (x < 1 ∨ s_bc (d_set π.1 0 cnt) < x ∨ y < 0 ∨ 100 < y)) ∧ v9 = some (.int 1) ∧ s_pl h1 b π ∧ ∃ f1, h1 o = .inl (1, 1, .inr (.inl f1)))) ∧ s_off2 h h1 b (b + 93) o (o + 1)) s_no) 22 (fun _ => none) [] h n 0 0 := by
    intro hno
    refine g_iconst 1 dL_isRaised_22 (by rfl) ?_
    refine g_ireturn dL_isRaised_23 rfl ?_
    exact ⟨rfl, Or.inr ⟨hno, rfl, hP, f, ho⟩, fun _ _ _ => rfl⟩
  refine s_Mt_ofH rfl (by decide) (by exact Nat.le_of_ble_eq_true rfl) ?_
  refine g_aload_n dL_isRaised_0 rfl (by rfl) ?_
  refine g_iconst (nI 0) dL_isRaised_1 (by rfl) ?_
  refine g_aload_n dL_isRaised_2 rfl (by rfl) ?_
  refine g_iload_n dL_isRaised_3 rfl (by rfl) ?_
  refine g_iload_n dL_isRaised_4 rfl (by rfl) ?_
  refine g_callV_x (c_X8_isRaised hP hn ok x y) dL_isRaised_5 (mX8_isRaised) rfl lL_84 iX8_isRaised vX8_isRaised (by decide) (by omega) (by exact hb) rfl rfl rfl rfl (Nat.le_of_ble_eq_true rfl) (Nat.le_of_ble_eq_true rfl) (Nat.le_of_ble_eq_true rfl) (fun v9 h9 z9 => ?_) (fun E9 h9 z9 => by obtain ⟨rfl, rfl, hno⟩ := z9; exact g_catch [] (0, 17, 20, 22) [] rfl (fun z hz => by cases hz) (by decide) (by decide) wl_22 (by decide) (Or.inr ⟨dL_isRaised_20, rfl⟩) (by decide) (kx hno))
  obtain ⟨rfl, hP, qoff, hin⟩ := z9
  have ho := (qoff o (by omega)).trans ho
  refine g_if_eq (tgt := 15) dL_isRaised_8 (by decide) (fun c_8 => ?_) (fun c_8 => ?_)
  · have heq : (0 : Int64) = (((if u_cell π.1 cnt (x.toNatClampNeg - 1) y.toNatClampNeg < u_cell π.1 cnt x.toNatClampNeg y.toNatClampNeg then 1 else 0)) : Int32).toInt64 := by rw [c_8]; rfl
    refine g_lconst 0 dL_isRaised_15 (by rfl) ?_
    refine g_last' dL_isRaised_16 (by exact ho) (by omega) (by rfl) (by omega) (by omega) (fun h1 e1 => ?_)
    first | have hb_1 := s_up_off e1 (by omega) hb | have hb_1 := s_up_at e1
    first | have ho_1 := s_up_off e1 (by omega) ho | have ho_1 := s_up_at e1
    refine g_goto (tgt := 24) dL_isRaised_17 (by decide) ?_
    refine g_iconst 0 dL_isRaised_24 (by rfl) ?_
    refine g_ireturn dL_isRaised_25 rfl ?_
    exact ⟨rfl, Or.inl ⟨hin, rfl, hP.off (((s_off.rf (a := o) (b := (o + 1))).up e1 (by omega))) (by omega), _, ho_1, heq⟩, fun j a c => ((((s_off.rf (a := o) (b := (o + 1))).up e1 (by omega))) j c).trans (qoff j a)⟩
  · have heq : (1 : Int64) = (((if u_cell π.1 cnt (x.toNatClampNeg - 1) y.toNatClampNeg < u_cell π.1 cnt x.toNatClampNeg y.toNatClampNeg then 1 else 0)) : Int32).toInt64 := by
      revert c_8
      split
      all_goals first | (intro z; exact absurd rfl z) | (intro _; rfl)
    refine g_lconst 1 dL_isRaised_11 (by rfl) ?_
    refine g_goto (tgt := 16) dL_isRaised_12 (by decide) ?_
    refine g_last' dL_isRaised_16 (by exact ho) (by omega) (by rfl) (by omega) (by omega) (fun h2 e2 => ?_)
    first | have hb_2 := s_up_off e2 (by omega) hb | have hb_2 := s_up_at e2
    first | have ho_2 := s_up_off e2 (by omega) ho | have ho_2 := s_up_at e2
    refine g_goto (tgt := 24) dL_isRaised_17 (by decide) ?_
    refine g_iconst 0 dL_isRaised_24 (by rfl) ?_
    refine g_ireturn dL_isRaised_25 rfl ?_
    exact ⟨rfl, Or.inl ⟨hin, rfl, hP.off (((s_off.rf (a := o) (b := (o + 1))).up e2 (by omega))) (by omega), _, ho_2, heq⟩, fun j a c => ((((s_off.rf (a := o) (b := (o + 1))).up e2 (by omega))) j c).trans (qoff j a)⟩

theorem c_L_setSize {h : s_H} {n b o : Nat} {π : s_Pl} {f : Nat → Int64} (hP : s_pl h b π) (hn : b + 93 ≤ n) (ho : h o = .inl (1, 1, .inr (.inl f))) (hon : o < n) (hob : o < b ∨ b + 93 ≤ o) {cnt cp : Nat} (ok : d_ok π.1 cnt cp) (hl : π.2.2.2.2.1 ≤ 10) (x y : Int32) : s_Mt TL_setSize 2 12 [.ref b, .int x, .int y, .ref o] h n (s_rp n (fun v9 h1 => ((((s_in π x ∧ ¬ (y < 1 ∨ 60 < y))) ∧ v9 = some (.int 0) ∧ s_pl h1 b (d_put π.1 0 x.toNatClampNeg y, (pl_rem π).2) ∧ ∃ f1, h1 o = .inl (1, 1, .inr (.inl f1)) ∧ f1 0 = (((π.1.1 0 x.toNatClampNeg)) : Int32).toInt64) ∨ (¬ ((s_in π x ∧ ¬ (y < 1 ∨ 60 < y))) ∧ v9 = some (.int (if s_in π x then 2 else 1)) ∧ s_pl h1 b π ∧ ∃ f1, h1 o = .inl (1, 1, .inr (.inl f1)))) ∧ s_off2 h h1 b (b + 93) o (o + 1)) s_no) := by
  have hb := hP.1
  unfold s_po at hb
  have kx1 : ¬ ((s_in π x ∧ ¬ (y < 1 ∨ 60 < y))) → ¬ s_in π x → s_G TL_setSize (s_rp n (fun v9 h1 => ((((s_in π x ∧ ¬ (y < 1 ∨ 60 < y))) ∧ v9 = some (.int 0) ∧ s_pl h1 b (d_put π.1 0 x.toNatClampNeg y, (pl_rem π).2) ∧ ∃ f1, h1 o = .inl (1, 1, .inr (.inl f1)) ∧ f1 0 = (((π.1.1 0 x.toNatClampNeg)) : Int32).toInt64) ∨ (¬ ((s_in π x ∧ ¬ (y < 1 ∨ 60 < y))) ∧ v9 = some (.int (if s_in π x then 2 else 1)) ∧ s_pl h1 b π ∧ ∃ f1, h1 o = .inl (1, 1, .inr (.inl f1)))) ∧ s_off2 h h1 b (b + 93) o (o + 1)) s_no) 15 (fun _ => none) [] h n 0 0 := by
    intro hno hni
    refine g_iconst 1 dL_setSize_15 (by rfl) ?_
    refine g_ireturn dL_setSize_16 rfl ?_
    exact ⟨rfl, Or.inr ⟨hno, by rw [if_neg hni], hP, f, ho⟩, fun _ _ _ => rfl⟩
  have kx2 : ¬ ((s_in π x ∧ ¬ (y < 1 ∨ 60 < y))) → s_in π x → s_G TL_setSize (s_rp n (fun v9 h1 => ((((s_in π x ∧ ¬ (y < 1 ∨ 60 < y))) ∧ v9 = some (.int 0) ∧ s_pl h1 b (d_put π.1 0 x.toNatClampNeg y, (pl_rem π).2) ∧ ∃ f1, h1 o = .inl (1, 1, .inr (.inl f1)) ∧ f1 0 = (((π.1.1 0 x.toNatClampNeg)) : Int32).toInt64) ∨ (¬ ((s_in π x ∧ ¬ (y < 1 ∨ 60 < y))) ∧ v9 = some (.int (if s_in π x then 2 else 1)) ∧ s_pl h1 b π ∧ ∃ f1, h1 o = .inl (1, 1, .inr (.inl f1)))) ∧ s_off2 h h1 b (b + 93) o (o + 1)) s_no) 19 (fun _ => none) [] h n 0 0 := by
    intro hno hni
    refine g_iconst 2 dL_setSize_19 (by rfl) ?_
    refine g_ireturn dL_setSize_20 rfl ?_
    exact ⟨rfl, Or.inr ⟨hno, by rw [if_pos hni], hP, f, ho⟩, fun _ _ _ => rfl⟩
  refine s_Mt_ofH rfl (by decide) (by exact Nat.le_of_ble_eq_true rfl) ?_
  refine g_aload_n dL_setSize_0 rfl (by rfl) ?_
  refine g_iconst (nI 0) dL_setSize_1 (by rfl) ?_
  refine g_aload_n dL_setSize_2 rfl (by rfl) ?_
  refine g_iload_n dL_setSize_3 rfl (by rfl) ?_
  refine g_iload_n dL_setSize_4 rfl (by rfl) ?_
  refine g_callV_x (c_X8_setSize hP hn ok hl x y) dL_setSize_5 (mX8_setSize) rfl lL_24 iX8_setSize vX8_setSize (by decide) (by omega) (by exact hb) rfl rfl rfl rfl (Nat.le_of_ble_eq_true rfl) (Nat.le_of_ble_eq_true rfl) (Nat.le_of_ble_eq_true rfl) (fun v9 h9 z9 => ?_) (fun E9 h9 z9 => by
      obtain ⟨hE, rfl, hno⟩ := z9
      by_cases hni : s_in π x
      · rw [if_pos hni] at hE
        subst hE
        exact g_catch [(0, 10, 13, 22)] (0, 10, 17, 13) [] rfl (fun z hz => by
          rw [List.mem_singleton] at hz
          subst hz
          exact Or.inr ⟨by decide, wl_22, rfl⟩) (by decide) (by decide) wl_13 (by decide) (Or.inr ⟨dL_setSize_17, rfl⟩) (by decide) (kx2 hno hni)
      · rw [if_neg hni] at hE
        subst hE
        exact g_catch [] (0, 10, 13, 22) [(0, 10, 17, 13)] rfl (fun z hz => by cases hz) (by decide) (by decide) wl_22 (by decide) (Or.inr ⟨dL_setSize_13, rfl⟩) (by decide) (kx1 hno hni))
  obtain ⟨rfl, hP, qoff, hin⟩ := z9
  have ho := (qoff o (by omega)).trans ho
  refine g_i2l dL_setSize_8 ?_
  refine g_last' dL_setSize_9 (by exact ho) (by omega) (by rfl) (by omega) (by omega) (fun h1 e1 => ?_)
  first | have hb_1 := s_up_off e1 (by omega) hb | have hb_1 := s_up_at e1
  first | have ho_1 := s_up_off e1 (by omega) ho | have ho_1 := s_up_at e1
  refine g_goto (tgt := 21) dL_setSize_10 (by decide) ?_
  refine g_iconst 0 dL_setSize_21 (by rfl) ?_
  refine g_ireturn dL_setSize_22 rfl ?_
  exact ⟨rfl, Or.inl ⟨hin, rfl, hP.off (((s_off.rf (a := o) (b := (o + 1))).up e1 (by omega))) (by omega), _, ho_1, rfl⟩, fun j a c => ((((s_off.rf (a := o) (b := (o + 1))).up e1 (by omega))) j c).trans (qoff j a)⟩

theorem c_L_setValue {h : s_H} {n b o : Nat} {π : s_Pl} {f : Nat → Int64} (hP : s_pl h b π) (hn : b + 93 ≤ n) (ho : h o = .inl (1, 1, .inr (.inl f))) (hon : o < n) (hob : o < b ∨ b + 93 ≤ o) {cnt cp : Nat} (ok : d_ok π.1 cnt cp) (hl : π.2.2.2.2.1 ≤ 10) (x y : Int32) : s_Mt TL_setValue 2 12 [.ref b, .int x, .int y, .ref o] h n (s_rp n (fun v9 h1 => ((((s_in π x ∧ ¬ (y < 0 ∨ 999 < y))) ∧ v9 = some (.int 0) ∧ s_pl h1 b (d_put π.1 1 x.toNatClampNeg y, (pl_rem π).2) ∧ ∃ f1, h1 o = .inl (1, 1, .inr (.inl f1)) ∧ f1 0 = (((π.1.1 1 x.toNatClampNeg)) : Int32).toInt64) ∨ (¬ ((s_in π x ∧ ¬ (y < 0 ∨ 999 < y))) ∧ v9 = some (.int (if s_in π x then 2 else 1)) ∧ s_pl h1 b π ∧ ∃ f1, h1 o = .inl (1, 1, .inr (.inl f1)))) ∧ s_off2 h h1 b (b + 93) o (o + 1)) s_no) := by
  have hb := hP.1
  unfold s_po at hb
  have kx1 : ¬ ((s_in π x ∧ ¬ (y < 0 ∨ 999 < y))) → ¬ s_in π x → s_G TL_setValue (s_rp n (fun v9 h1 => ((((s_in π x ∧ ¬ (y < 0 ∨ 999 < y))) ∧ v9 = some (.int 0) ∧ s_pl h1 b (d_put π.1 1 x.toNatClampNeg y, (pl_rem π).2) ∧ ∃ f1, h1 o = .inl (1, 1, .inr (.inl f1)) ∧ f1 0 = (((π.1.1 1 x.toNatClampNeg)) : Int32).toInt64) ∨ (¬ ((s_in π x ∧ ¬ (y < 0 ∨ 999 < y))) ∧ v9 = some (.int (if s_in π x then 2 else 1)) ∧ s_pl h1 b π ∧ ∃ f1, h1 o = .inl (1, 1, .inr (.inl f1)))) ∧ s_off2 h h1 b (b + 93) o (o + 1)) s_no) 15 (fun _ => none) [] h n 0 0 := by
    intro hno hni
    refine g_iconst 1 dL_setValue_15 (by rfl) ?_
    refine g_ireturn dL_setValue_16 rfl ?_
    exact ⟨rfl, Or.inr ⟨hno, by rw [if_neg hni], hP, f, ho⟩, fun _ _ _ => rfl⟩
  have kx2 : ¬ ((s_in π x ∧ ¬ (y < 0 ∨ 999 < y))) → s_in π x → s_G TL_setValue (s_rp n (fun v9 h1 => ((((s_in π x ∧ ¬ (y < 0 ∨ 999 < y))) ∧ v9 = some (.int 0) ∧ s_pl h1 b (d_put π.1 1 x.toNatClampNeg y, (pl_rem π).2) ∧ ∃ f1, h1 o = .inl (1, 1, .inr (.inl f1)) ∧ f1 0 = (((π.1.1 1 x.toNatClampNeg)) : Int32).toInt64) ∨ (¬ ((s_in π x ∧ ¬ (y < 0 ∨ 999 < y))) ∧ v9 = some (.int (if s_in π x then 2 else 1)) ∧ s_pl h1 b π ∧ ∃ f1, h1 o = .inl (1, 1, .inr (.inl f1)))) ∧ s_off2 h h1 b (b + 93) o (o + 1)) s_no) 19 (fun _ => none) [] h n 0 0 := by
    intro hno hni
    refine g_iconst 2 dL_setValue_19 (by rfl) ?_
    refine g_ireturn dL_setValue_20 rfl ?_
    exact ⟨rfl, Or.inr ⟨hno, by rw [if_pos hni], hP, f, ho⟩, fun _ _ _ => rfl⟩
  refine s_Mt_ofH rfl (by decide) (by exact Nat.le_of_ble_eq_true rfl) ?_
  refine g_aload_n dL_setValue_0 rfl (by rfl) ?_
  refine g_iconst (nI 0) dL_setValue_1 (by rfl) ?_
  refine g_aload_n dL_setValue_2 rfl (by rfl) ?_
  refine g_iload_n dL_setValue_3 rfl (by rfl) ?_
  refine g_iload_n dL_setValue_4 rfl (by rfl) ?_
  refine g_callV_x (c_X8_setValue hP hn ok hl x y) dL_setValue_5 (mX8_setValue) rfl lL_27 iX8_setValue vX8_setValue (by decide) (by omega) (by exact hb) rfl rfl rfl rfl (Nat.le_of_ble_eq_true rfl) (Nat.le_of_ble_eq_true rfl) (Nat.le_of_ble_eq_true rfl) (fun v9 h9 z9 => ?_) (fun E9 h9 z9 => by
      obtain ⟨hE, rfl, hno⟩ := z9
      by_cases hni : s_in π x
      · rw [if_pos hni] at hE
        subst hE
        exact g_catch [(0, 10, 13, 22)] (0, 10, 17, 13) [] rfl (fun z hz => by
          rw [List.mem_singleton] at hz
          subst hz
          exact Or.inr ⟨by decide, wl_22, rfl⟩) (by decide) (by decide) wl_13 (by decide) (Or.inr ⟨dL_setValue_17, rfl⟩) (by decide) (kx2 hno hni)
      · rw [if_neg hni] at hE
        subst hE
        exact g_catch [] (0, 10, 13, 22) [(0, 10, 17, 13)] rfl (fun z hz => by cases hz) (by decide) (by decide) wl_22 (by decide) (Or.inr ⟨dL_setValue_13, rfl⟩) (by decide) (kx1 hno hni))
  obtain ⟨rfl, hP, qoff, hin⟩ := z9
  have ho := (qoff o (by omega)).trans ho
  refine g_i2l dL_setValue_8 ?_
  refine g_last' dL_setValue_9 (by exact ho) (by omega) (by rfl) (by omega) (by omega) (fun h1 e1 => ?_)
  first | have hb_1 := s_up_off e1 (by omega) hb | have hb_1 := s_up_at e1
  first | have ho_1 := s_up_off e1 (by omega) ho | have ho_1 := s_up_at e1
  refine g_goto (tgt := 21) dL_setValue_10 (by decide) ?_
  refine g_iconst 0 dL_setValue_21 (by rfl) ?_
  refine g_ireturn dL_setValue_22 rfl ?_
  exact ⟨rfl, Or.inl ⟨hin, rfl, hP.off (((s_off.rf (a := o) (b := (o + 1))).up e1 (by omega))) (by omega), _, ho_1, rfl⟩, fun j a c => ((((s_off.rf (a := o) (b := (o + 1))).up e1 (by omega))) j c).trans (qoff j a)⟩
