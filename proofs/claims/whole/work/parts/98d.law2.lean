/-! THE LAW'S HELPERS WITH ONE CODE -/
theorem wl_13 : Cond.classLink RL 13 "java/lang/IllegalArgumentException" ∈ s_WL := s_WL_of 762 (by decide +kernel) rfl

theorem c_L_truncateInput {h : s_H} {n b o : Nat} {π : s_Pl} {f : Nat → Int64} (hP : s_pl h b π) (hn : b + 93 ≤ n) (ho : h o = .inl (1, 1, .inr (.inl f))) (hon : o < n) (hob : o < b ∨ b + 93 ≤ o) (x : Int32) : s_Mt TL_truncateInput 1 6 [.ref b, .int x, .ref o] h n (s_rp n (fun v9 h1 => (((¬ (x < 0 ∨ nI π.2.2.2.2.2.2.1 < x)) ∧ v9 = some (.int 0) ∧ s_pl h1 b (π.1, π.2.1, π.2.2.1, π.2.2.2.1, π.2.2.2.2.1, π.2.2.2.2.2.1, x.toNatClampNeg, π.2.2.2.2.2.2.2) ∧ ∃ f1, h1 o = .inl (1, 1, .inr (.inl f1)) ∧ f1 0 = ((x) : Int32).toInt64) ∨ (¬ (¬ (x < 0 ∨ nI π.2.2.2.2.2.2.1 < x)) ∧ v9 = some (.int 1) ∧ s_pl h1 b π ∧ ∃ f1, h1 o = .inl (1, 1, .inr (.inl f1)))) ∧ s_off2 h h1 b (b + 93) o (o + 1)) s_no) := by
  have hb := hP.1
  unfold s_po at hb
  have kx : ¬ (¬ (x < 0 ∨ nI π.2.2.2.2.2.2.1 < x)) → s_G TL_truncateInput (s_rp n (fun v9 h1 => (((¬ (x < 0 ∨ nI π.2.2.2.2.2.2.1 < x)) ∧ v9 = some (.int 0) ∧ s_pl h1 b (π.1, π.2.1, π.2.2.1, π.2.2.2.1, π.2.2.2.2.1, π.2.2.2.2.2.1, x.toNatClampNeg, π.2.2.2.2.2.2.2) ∧ ∃ f1, h1 o = .inl (1, 1, .inr (.inl f1)) ∧ f1 0 = ((x) : Int32).toInt64) ∨ (¬ (¬ (x < 0 ∨ nI π.2.2.2.2.2.2.1 < x)) ∧ v9 = some (.int 1) ∧ s_pl h1 b π ∧ ∃ f1, h1 o = .inl (1, 1, .inr (.inl f1)))) ∧ s_off2 h h1 b (b + 93) o (o + 1)) s_no) 13 (fun _ => none) [] h n 0 0 := by
    intro hno
    refine g_iconst 1 dL_truncateInput_13 (by rfl) ?_
    refine g_ireturn dL_truncateInput_14 rfl ?_
    exact ⟨rfl, Or.inr ⟨hno, rfl, hP, f, ho⟩, fun _ _ _ => rfl⟩
  refine s_Mt_ofH rfl (by decide) (by exact Nat.le_of_ble_eq_true rfl) ?_
  refine g_aload_n dL_truncateInput_0 rfl (by rfl) ?_
  refine g_iconst (nI 0) dL_truncateInput_1 (by rfl) ?_
  refine g_aload_n dL_truncateInput_2 rfl (by rfl) ?_
  refine g_iload_n dL_truncateInput_3 rfl (by rfl) ?_
  refine g_callV_x (c_X8_truncateInput hP hn x) dL_truncateInput_4 (mX8_truncateInput) rfl lL_7 iX8_truncateInput vX8_truncateInput (by decide) (by omega) (by exact hb) rfl rfl rfl rfl (Nat.le_of_ble_eq_true rfl) (Nat.le_of_ble_eq_true rfl) (Nat.le_of_ble_eq_true rfl) (fun v9 h9 z9 => ?_) (fun E9 h9 z9 => by obtain ⟨rfl, rfl, hno⟩ := z9; exact g_catch [] (0, 9, 12, 13) [] rfl (fun z hz => by cases hz) (by decide) (by decide) wl_13 (by decide) (Or.inl ⟨3, dL_truncateInput_12, rfl, rfl⟩) (by decide) (kx hno))
  obtain ⟨rfl, hP, qoff, hin⟩ := z9
  have ho := (qoff o (by omega)).trans ho
  refine g_i2l dL_truncateInput_7 ?_
  refine g_last' dL_truncateInput_8 (by exact ho) (by omega) (by rfl) (by omega) (by omega) (fun h1 e1 => ?_)
  first | have hb_1 := s_up_off e1 (by omega) hb | have hb_1 := s_up_at e1
  first | have ho_1 := s_up_off e1 (by omega) ho | have ho_1 := s_up_at e1
  refine g_goto (tgt := 15) dL_truncateInput_9 (by decide) ?_
  refine g_iconst 0 dL_truncateInput_15 (by rfl) ?_
  refine g_ireturn dL_truncateInput_16 rfl ?_
  exact ⟨rfl, Or.inl ⟨hin, rfl, hP.off (((s_off.rf (a := o) (b := (o + 1))).up e1 (by omega))) (by omega), _, ho_1, rfl⟩, fun j a c => ((((s_off.rf (a := o) (b := (o + 1))).up e1 (by omega))) j c).trans (qoff j a)⟩

theorem c_L_addItem {h : s_H} {n b o : Nat} {π : s_Pl} {f : Nat → Int64} (hP : s_pl h b π) (hn : b + 93 ≤ n) (ho : h o = .inl (1, 1, .inr (.inl f))) (hon : o < n) (hob : o < b ∨ b + 93 ≤ o) {cnt cp : Nat} (ok : d_ok π.1 cnt cp) (hl : π.2.2.2.2.1 ≤ 10) (x y : Int32) : s_Mt TL_addItem 2 12 [.ref b, .int x, .int y, .ref o] h n (s_rp n (fun v9 h1 => ((((¬ (x < 1 ∨ 60 < x) ∧ ¬ (y < 0 ∨ 999 < y))) ∧ v9 = some (.int 0) ∧ s_pl h1 b (if cnt = 14 then π else (d_add π.1 cnt x y, (pl_rem π).2)) ∧ ∃ f1, h1 o = .inl (1, 1, .inr (.inl f1)) ∧ f1 0 = (((if cnt = 14 then -2 else nI cnt)) : Int32).toInt64) ∨ (¬ ((¬ (x < 1 ∨ 60 < x) ∧ ¬ (y < 0 ∨ 999 < y))) ∧ v9 = some (.int 1) ∧ s_pl h1 b π ∧ ∃ f1, h1 o = .inl (1, 1, .inr (.inl f1)))) ∧ s_off2 h h1 b (b + 93) o (o + 1)) s_no) := by
  have hb := hP.1
  unfold s_po at hb
  have kx : ¬ ((¬ (x < 1 ∨ 60 < x) ∧ ¬ (y < 0 ∨ 999 < y))) → s_G TL_addItem (s_rp n (fun v9 h1 => ((((¬ (x < 1 ∨ 60 < x) ∧ ¬ (y < 0 ∨ 999 < y))) ∧ v9 = some (.int 0) ∧ s_pl h1 b (if cnt = 14 then π else (d_add π.1 cnt x y, (pl_rem π).2)) ∧ ∃ f1, h1 o = .inl (1, 1, .inr (.inl f1)) ∧ f1 0 = (((if cnt = 14 then -2 else nI cnt)) : Int32).toInt64) ∨ (¬ ((¬ (x < 1 ∨ 60 < x) ∧ ¬ (y < 0 ∨ 999 < y))) ∧ v9 = some (.int 1) ∧ s_pl h1 b π ∧ ∃ f1, h1 o = .inl (1, 1, .inr (.inl f1)))) ∧ s_off2 h h1 b (b + 93) o (o + 1)) s_no) 15 (fun _ => none) [] h n 0 0 := by
    intro hno
    refine g_iconst 1 dL_addItem_15 (by rfl) ?_
    refine g_ireturn dL_addItem_16 rfl ?_
    exact ⟨rfl, Or.inr ⟨hno, rfl, hP, f, ho⟩, fun _ _ _ => rfl⟩
  refine s_Mt_ofH rfl (by decide) (by exact Nat.le_of_ble_eq_true rfl) ?_
  refine g_aload_n dL_addItem_0 rfl (by rfl) ?_
  refine g_iconst (nI 0) dL_addItem_1 (by rfl) ?_
  refine g_aload_n dL_addItem_2 rfl (by rfl) ?_
  refine g_iload_n dL_addItem_3 rfl (by rfl) ?_
  refine g_iload_n dL_addItem_4 rfl (by rfl) ?_
  refine g_callV_x (c_X8_addItem hP hn ok hl x y) dL_addItem_5 (mX8_addItem) rfl lL_15 iX8_addItem vX8_addItem (by decide) (by omega) (by exact hb) rfl rfl rfl rfl (Nat.le_of_ble_eq_true rfl) (Nat.le_of_ble_eq_true rfl) (Nat.le_of_ble_eq_true rfl) (fun v9 h9 z9 => ?_) (fun E9 h9 z9 => by obtain ⟨rfl, rfl, hno⟩ := z9; exact g_catch [] (0, 10, 13, 13) [] rfl (fun z hz => by cases hz) (by decide) (by decide) wl_13 (by decide) (Or.inr ⟨dL_addItem_13, rfl⟩) (by decide) (kx hno))
  obtain ⟨rfl, hP, qoff, hin⟩ := z9
  have ho := (qoff o (by omega)).trans ho
  refine g_i2l dL_addItem_8 ?_
  refine g_last' dL_addItem_9 (by exact ho) (by omega) (by rfl) (by omega) (by omega) (fun h1 e1 => ?_)
  first | have hb_1 := s_up_off e1 (by omega) hb | have hb_1 := s_up_at e1
  first | have ho_1 := s_up_off e1 (by omega) ho | have ho_1 := s_up_at e1
  refine g_goto (tgt := 17) dL_addItem_10 (by decide) ?_
  refine g_iconst 0 dL_addItem_17 (by rfl) ?_
  refine g_ireturn dL_addItem_18 rfl ?_
  exact ⟨rfl, Or.inl ⟨hin, rfl, hP.off (((s_off.rf (a := o) (b := (o + 1))).up e1 (by omega))) (by omega), _, ho_1, rfl⟩, fun j a c => ((((s_off.rf (a := o) (b := (o + 1))).up e1 (by omega))) j c).trans (qoff j a)⟩

theorem c_L_removeItem {h : s_H} {n b o : Nat} {π : s_Pl} {f : Nat → Int64} (hP : s_pl h b π) (hn : b + 93 ≤ n) (ho : h o = .inl (1, 1, .inr (.inl f))) (hon : o < n) (hob : o < b ∨ b + 93 ≤ o) {cnt cp : Nat} (ok : d_ok π.1 cnt cp) (hl : π.2.2.2.2.1 ≤ 10) (x : Int32) : s_Mt TL_removeItem 1 6 [.ref b, .int x, .ref o] h n (s_rp n (fun v9 h1 => (((s_in π x) ∧ v9 = some (.int 0) ∧ s_pl h1 b (d_drop π.1 x.toNatClampNeg cnt, (pl_rem π).2) ∧ ∃ f1, h1 o = .inl (1, 1, .inr (.inl f1)) ∧ f1 0 = (((nI (cnt - 1))) : Int32).toInt64) ∨ (¬ (s_in π x) ∧ v9 = some (.int 1) ∧ s_pl h1 b π ∧ ∃ f1, h1 o = .inl (1, 1, .inr (.inl f1)))) ∧ s_off2 h h1 b (b + 93) o (o + 1)) s_no) := by
  have hb := hP.1
  unfold s_po at hb
  have kx : ¬ (s_in π x) → s_G TL_removeItem (s_rp n (fun v9 h1 => (((s_in π x) ∧ v9 = some (.int 0) ∧ s_pl h1 b (d_drop π.1 x.toNatClampNeg cnt, (pl_rem π).2) ∧ ∃ f1, h1 o = .inl (1, 1, .inr (.inl f1)) ∧ f1 0 = (((nI (cnt - 1))) : Int32).toInt64) ∨ (¬ (s_in π x) ∧ v9 = some (.int 1) ∧ s_pl h1 b π ∧ ∃ f1, h1 o = .inl (1, 1, .inr (.inl f1)))) ∧ s_off2 h h1 b (b + 93) o (o + 1)) s_no) 13 (fun _ => none) [] h n 0 0 := by
    intro hno
    refine g_iconst 1 dL_removeItem_13 (by rfl) ?_
    refine g_ireturn dL_removeItem_14 rfl ?_
    exact ⟨rfl, Or.inr ⟨hno, rfl, hP, f, ho⟩, fun _ _ _ => rfl⟩
  refine s_Mt_ofH rfl (by decide) (by exact Nat.le_of_ble_eq_true rfl) ?_
  refine g_aload_n dL_removeItem_0 rfl (by rfl) ?_
  refine g_iconst (nI 0) dL_removeItem_1 (by rfl) ?_
  refine g_aload_n dL_removeItem_2 rfl (by rfl) ?_
  refine g_iload_n dL_removeItem_3 rfl (by rfl) ?_
  refine g_callV_x (c_X8_removeItem hP hn ok hl x) dL_removeItem_4 (mX8_removeItem) rfl lL_19 iX8_removeItem vX8_removeItem (by decide) (by omega) (by exact hb) rfl rfl rfl rfl (Nat.le_of_ble_eq_true rfl) (Nat.le_of_ble_eq_true rfl) (Nat.le_of_ble_eq_true rfl) (fun v9 h9 z9 => ?_) (fun E9 h9 z9 => by obtain ⟨rfl, rfl, hno⟩ := z9; exact g_catch [] (0, 9, 12, 22) [] rfl (fun z hz => by cases hz) (by decide) (by decide) wl_22 (by decide) (Or.inl ⟨3, dL_removeItem_12, rfl, rfl⟩) (by decide) (kx hno))
  obtain ⟨rfl, hP, qoff, hin⟩ := z9
  have ho := (qoff o (by omega)).trans ho
  refine g_i2l dL_removeItem_7 ?_
  refine g_last' dL_removeItem_8 (by exact ho) (by omega) (by rfl) (by omega) (by omega) (fun h1 e1 => ?_)
  first | have hb_1 := s_up_off e1 (by omega) hb | have hb_1 := s_up_at e1
  first | have ho_1 := s_up_off e1 (by omega) ho | have ho_1 := s_up_at e1
  refine g_goto (tgt := 15) dL_removeItem_9 (by decide) ?_
  refine g_iconst 0 dL_removeItem_15 (by rfl) ?_
  refine g_ireturn dL_removeItem_16 rfl ?_
  exact ⟨rfl, Or.inl ⟨hin, rfl, hP.off (((s_off.rf (a := o) (b := (o + 1))).up e1 (by omega))) (by omega), _, ho_1, rfl⟩, fun j a c => ((((s_off.rf (a := o) (b := (o + 1))).up e1 (by omega))) j c).trans (qoff j a)⟩

theorem c_L_exclude {h : s_H} {n b o : Nat} {π : s_Pl} {f : Nat → Int64} (hP : s_pl h b π) (hn : b + 93 ≤ n) (ho : h o = .inl (1, 1, .inr (.inl f))) (hon : o < n) (hob : o < b ∨ b + 93 ≤ o) {cnt cp : Nat} (ok : d_ok π.1 cnt cp) (hl : π.2.2.2.2.1 ≤ 10) (x : Int32) : s_Mt TL_exclude 1 6 [.ref b, .int x, .ref o] h n (s_rp n (fun v9 h1 => (((s_in π x) ∧ v9 = some (.int 0) ∧ s_pl h1 b (d_put π.1 3 x.toNatClampNeg 2, (pl_rem π).2) ∧ ∃ f1, h1 o = .inl (1, 1, .inr (.inl f1)) ∧ f1 0 = (((π.1.1 3 x.toNatClampNeg)) : Int32).toInt64) ∨ (¬ (s_in π x) ∧ v9 = some (.int 1) ∧ s_pl h1 b π ∧ ∃ f1, h1 o = .inl (1, 1, .inr (.inl f1)))) ∧ s_off2 h h1 b (b + 93) o (o + 1)) s_no) := by
  have hb := hP.1
  unfold s_po at hb
  have kx : ¬ (s_in π x) → s_G TL_exclude (s_rp n (fun v9 h1 => (((s_in π x) ∧ v9 = some (.int 0) ∧ s_pl h1 b (d_put π.1 3 x.toNatClampNeg 2, (pl_rem π).2) ∧ ∃ f1, h1 o = .inl (1, 1, .inr (.inl f1)) ∧ f1 0 = (((π.1.1 3 x.toNatClampNeg)) : Int32).toInt64) ∨ (¬ (s_in π x) ∧ v9 = some (.int 1) ∧ s_pl h1 b π ∧ ∃ f1, h1 o = .inl (1, 1, .inr (.inl f1)))) ∧ s_off2 h h1 b (b + 93) o (o + 1)) s_no) 13 (fun _ => none) [] h n 0 0 := by
    intro hno
    refine g_iconst 1 dL_exclude_13 (by rfl) ?_
    refine g_ireturn dL_exclude_14 rfl ?_
    exact ⟨rfl, Or.inr ⟨hno, rfl, hP, f, ho⟩, fun _ _ _ => rfl⟩
  refine s_Mt_ofH rfl (by decide) (by exact Nat.le_of_ble_eq_true rfl) ?_
  refine g_aload_n dL_exclude_0 rfl (by rfl) ?_
  refine g_iconst (nI 0) dL_exclude_1 (by rfl) ?_
  refine g_aload_n dL_exclude_2 rfl (by rfl) ?_
  refine g_iload_n dL_exclude_3 rfl (by rfl) ?_
  refine g_callV_x (c_X8_exclude hP hn ok hl x) dL_exclude_4 (mX8_exclude) rfl lL_33 iX8_exclude vX8_exclude (by decide) (by omega) (by exact hb) rfl rfl rfl rfl (Nat.le_of_ble_eq_true rfl) (Nat.le_of_ble_eq_true rfl) (Nat.le_of_ble_eq_true rfl) (fun v9 h9 z9 => ?_) (fun E9 h9 z9 => by obtain ⟨rfl, rfl, hno⟩ := z9; exact g_catch [] (0, 9, 12, 22) [] rfl (fun z hz => by cases hz) (by decide) (by decide) wl_22 (by decide) (Or.inl ⟨3, dL_exclude_12, rfl, rfl⟩) (by decide) (kx hno))
  obtain ⟨rfl, hP, qoff, hin⟩ := z9
  have ho := (qoff o (by omega)).trans ho
  refine g_i2l dL_exclude_7 ?_
  refine g_last' dL_exclude_8 (by exact ho) (by omega) (by rfl) (by omega) (by omega) (fun h1 e1 => ?_)
  first | have hb_1 := s_up_off e1 (by omega) hb | have hb_1 := s_up_at e1
  first | have ho_1 := s_up_off e1 (by omega) ho | have ho_1 := s_up_at e1
  refine g_goto (tgt := 15) dL_exclude_9 (by decide) ?_
  refine g_iconst 0 dL_exclude_15 (by rfl) ?_
  refine g_ireturn dL_exclude_16 rfl ?_
  exact ⟨rfl, Or.inl ⟨hin, rfl, hP.off (((s_off.rf (a := o) (b := (o + 1))).up e1 (by omega))) (by omega), _, ho_1, rfl⟩, fun j a c => ((((s_off.rf (a := o) (b := (o + 1))).up e1 (by omega))) j c).trans (qoff j a)⟩

theorem c_L_release {h : s_H} {n b o : Nat} {π : s_Pl} {f : Nat → Int64} (hP : s_pl h b π) (hn : b + 93 ≤ n) (ho : h o = .inl (1, 1, .inr (.inl f))) (hon : o < n) (hob : o < b ∨ b + 93 ≤ o) {cnt cp : Nat} (ok : d_ok π.1 cnt cp) (hl : π.2.2.2.2.1 ≤ 10) (x : Int32) : s_Mt TL_release 1 6 [.ref b, .int x, .ref o] h n (s_rp n (fun v9 h1 => (((s_in π x) ∧ v9 = some (.int 0) ∧ s_pl h1 b (d_put π.1 3 x.toNatClampNeg 0, (pl_rem π).2) ∧ ∃ f1, h1 o = .inl (1, 1, .inr (.inl f1)) ∧ f1 0 = (((π.1.1 3 x.toNatClampNeg)) : Int32).toInt64) ∨ (¬ (s_in π x) ∧ v9 = some (.int 1) ∧ s_pl h1 b π ∧ ∃ f1, h1 o = .inl (1, 1, .inr (.inl f1)))) ∧ s_off2 h h1 b (b + 93) o (o + 1)) s_no) := by
  have hb := hP.1
  unfold s_po at hb
  have kx : ¬ (s_in π x) → s_G TL_release (s_rp n (fun v9 h1 => (((s_in π x) ∧ v9 = some (.int 0) ∧ s_pl h1 b (d_put π.1 3 x.toNatClampNeg 0, (pl_rem π).2) ∧ ∃ f1, h1 o = .inl (1, 1, .inr (.inl f1)) ∧ f1 0 = (((π.1.1 3 x.toNatClampNeg)) : Int32).toInt64) ∨ (¬ (s_in π x) ∧ v9 = some (.int 1) ∧ s_pl h1 b π ∧ ∃ f1, h1 o = .inl (1, 1, .inr (.inl f1)))) ∧ s_off2 h h1 b (b + 93) o (o + 1)) s_no) 13 (fun _ => none) [] h n 0 0 := by
    intro hno
    refine g_iconst 1 dL_release_13 (by rfl) ?_
    refine g_ireturn dL_release_14 rfl ?_
    exact ⟨rfl, Or.inr ⟨hno, rfl, hP, f, ho⟩, fun _ _ _ => rfl⟩
  refine s_Mt_ofH rfl (by decide) (by exact Nat.le_of_ble_eq_true rfl) ?_
  refine g_aload_n dL_release_0 rfl (by rfl) ?_
  refine g_iconst (nI 0) dL_release_1 (by rfl) ?_
  refine g_aload_n dL_release_2 rfl (by rfl) ?_
  refine g_iload_n dL_release_3 rfl (by rfl) ?_
  refine g_callV_x (c_X8_release hP hn ok hl x) dL_release_4 (mX8_release) rfl lL_36 iX8_release vX8_release (by decide) (by omega) (by exact hb) rfl rfl rfl rfl (Nat.le_of_ble_eq_true rfl) (Nat.le_of_ble_eq_true rfl) (Nat.le_of_ble_eq_true rfl) (fun v9 h9 z9 => ?_) (fun E9 h9 z9 => by obtain ⟨rfl, rfl, hno⟩ := z9; exact g_catch [] (0, 9, 12, 22) [] rfl (fun z hz => by cases hz) (by decide) (by decide) wl_22 (by decide) (Or.inl ⟨3, dL_release_12, rfl, rfl⟩) (by decide) (kx hno))
  obtain ⟨rfl, hP, qoff, hin⟩ := z9
  have ho := (qoff o (by omega)).trans ho
  refine g_i2l dL_release_7 ?_
  refine g_last' dL_release_8 (by exact ho) (by omega) (by rfl) (by omega) (by omega) (fun h1 e1 => ?_)
  first | have hb_1 := s_up_off e1 (by omega) hb | have hb_1 := s_up_at e1
  first | have ho_1 := s_up_off e1 (by omega) ho | have ho_1 := s_up_at e1
  refine g_goto (tgt := 15) dL_release_9 (by decide) ?_
  refine g_iconst 0 dL_release_15 (by rfl) ?_
  refine g_ireturn dL_release_16 rfl ?_
  exact ⟨rfl, Or.inl ⟨hin, rfl, hP.off (((s_off.rf (a := o) (b := (o + 1))).up e1 (by omega))) (by omega), _, ho_1, rfl⟩, fun j a c => ((((s_off.rf (a := o) (b := (o + 1))).up e1 (by omega))) j c).trans (qoff j a)⟩

theorem c_L_setCapacity {h : s_H} {n b o : Nat} {π : s_Pl} {f : Nat → Int64} (hP : s_pl h b π) (hn : b + 93 ≤ n) (ho : h o = .inl (1, 1, .inr (.inl f))) (hon : o < n) (hob : o < b ∨ b + 93 ≤ o) {cnt cp : Nat} (ok : d_ok π.1 cnt cp) (hl : π.2.2.2.2.1 ≤ 10) (x : Int32) : s_Mt TL_setCapacity 1 6 [.ref b, .int x, .ref o] h n (s_rp n (fun v9 h1 => (((¬ (x < 0 ∨ 100 < x)) ∧ v9 = some (.int 0) ∧ s_pl h1 b (d_cap π.1 x, (pl_rem π).2) ∧ ∃ f1, h1 o = .inl (1, 1, .inr (.inl f1)) ∧ f1 0 = (((π.1.2 1)) : Int32).toInt64) ∨ (¬ (¬ (x < 0 ∨ 100 < x)) ∧ v9 = some (.int 1) ∧ s_pl h1 b π ∧ ∃ f1, h1 o = .inl (1, 1, .inr (.inl f1)))) ∧ s_off2 h h1 b (b + 93) o (o + 1)) s_no) := by
  have hb := hP.1
  unfold s_po at hb
  have kx : ¬ (¬ (x < 0 ∨ 100 < x)) → s_G TL_setCapacity (s_rp n (fun v9 h1 => (((¬ (x < 0 ∨ 100 < x)) ∧ v9 = some (.int 0) ∧ s_pl h1 b (d_cap π.1 x, (pl_rem π).2) ∧ ∃ f1, h1 o = .inl (1, 1, .inr (.inl f1)) ∧ f1 0 = (((π.1.2 1)) : Int32).toInt64) ∨ (¬ (¬ (x < 0 ∨ 100 < x)) ∧ v9 = some (.int 1) ∧ s_pl h1 b π ∧ ∃ f1, h1 o = .inl (1, 1, .inr (.inl f1)))) ∧ s_off2 h h1 b (b + 93) o (o + 1)) s_no) 13 (fun _ => none) [] h n 0 0 := by
    intro hno
    refine g_iconst 1 dL_setCapacity_13 (by rfl) ?_
    refine g_ireturn dL_setCapacity_14 rfl ?_
    exact ⟨rfl, Or.inr ⟨hno, rfl, hP, f, ho⟩, fun _ _ _ => rfl⟩
  refine s_Mt_ofH rfl (by decide) (by exact Nat.le_of_ble_eq_true rfl) ?_
  refine g_aload_n dL_setCapacity_0 rfl (by rfl) ?_
  refine g_iconst (nI 0) dL_setCapacity_1 (by rfl) ?_
  refine g_aload_n dL_setCapacity_2 rfl (by rfl) ?_
  refine g_iload_n dL_setCapacity_3 rfl (by rfl) ?_
  refine g_callV_x (c_X8_setCapacity hP hn ok hl x) dL_setCapacity_4 (mX8_setCapacity) rfl lL_39 iX8_setCapacity vX8_setCapacity (by decide) (by omega) (by exact hb) rfl rfl rfl rfl (Nat.le_of_ble_eq_true rfl) (Nat.le_of_ble_eq_true rfl) (Nat.le_of_ble_eq_true rfl) (fun v9 h9 z9 => ?_) (fun E9 h9 z9 => by obtain ⟨rfl, rfl, hno⟩ := z9; exact g_catch [] (0, 9, 12, 13) [] rfl (fun z hz => by cases hz) (by decide) (by decide) wl_13 (by decide) (Or.inl ⟨3, dL_setCapacity_12, rfl, rfl⟩) (by decide) (kx hno))
  obtain ⟨rfl, hP, qoff, hin⟩ := z9
  have ho := (qoff o (by omega)).trans ho
  refine g_i2l dL_setCapacity_7 ?_
  refine g_last' dL_setCapacity_8 (by exact ho) (by omega) (by rfl) (by omega) (by omega) (fun h1 e1 => ?_)
  first | have hb_1 := s_up_off e1 (by omega) hb | have hb_1 := s_up_at e1
  first | have ho_1 := s_up_off e1 (by omega) ho | have ho_1 := s_up_at e1
  refine g_goto (tgt := 15) dL_setCapacity_9 (by decide) ?_
  refine g_iconst 0 dL_setCapacity_15 (by rfl) ?_
  refine g_ireturn dL_setCapacity_16 rfl ?_
  exact ⟨rfl, Or.inl ⟨hin, rfl, hP.off (((s_off.rf (a := o) (b := (o + 1))).up e1 (by omega))) (by omega), _, ho_1, rfl⟩, fun j a c => ((((s_off.rf (a := o) (b := (o + 1))).up e1 (by omega))) j c).trans (qoff j a)⟩

theorem c_L_runBackups {h : s_H} {n b o : Nat} {π : s_Pl} {f : Nat → Int64} (hP : s_pl h b π) (hn : b + 93 ≤ n) (ho : h o = .inl (1, 1, .inr (.inl f))) (hon : o < n) (hob : o < b ∨ b + 93 ≤ o) {cnt cp : Nat} (ok : d_ok π.1 cnt cp) (hl : π.2.2.2.2.1 ≤ 10) (x : Int32) : s_Mt TL_runBackups 1 6 [.ref b, .int x, .ref o] h n (s_rp n (fun v9 h1 => (((¬ (x < 1 ∨ 50 < x)) ∧ v9 = some (.int 0) ∧ s_pl h1 b (v_bn π.1 cnt cp x.toNatClampNeg, (pl_rem π).2) ∧ ∃ f1, h1 o = .inl (1, 1, .inr (.inl f1)) ∧ f1 0 = (((s_bc (v_un π.1 cnt cp x.toNatClampNeg))) : Int32).toInt64) ∨ (¬ (¬ (x < 1 ∨ 50 < x)) ∧ v9 = some (.int 1) ∧ s_pl h1 b π ∧ ∃ f1, h1 o = .inl (1, 1, .inr (.inl f1)))) ∧ s_off2 h h1 b (b + 93) o (o + 1)) s_no) := by
  have hb := hP.1
  unfold s_po at hb
  have kx : ¬ (¬ (x < 1 ∨ 50 < x)) → s_G TL_runBackups (s_rp n (fun v9 h1 => (((¬ (x < 1 ∨ 50 < x)) ∧ v9 = some (.int 0) ∧ s_pl h1 b (v_bn π.1 cnt cp x.toNatClampNeg, (pl_rem π).2) ∧ ∃ f1, h1 o = .inl (1, 1, .inr (.inl f1)) ∧ f1 0 = (((s_bc (v_un π.1 cnt cp x.toNatClampNeg))) : Int32).toInt64) ∨ (¬ (¬ (x < 1 ∨ 50 < x)) ∧ v9 = some (.int 1) ∧ s_pl h1 b π ∧ ∃ f1, h1 o = .inl (1, 1, .inr (.inl f1)))) ∧ s_off2 h h1 b (b + 93) o (o + 1)) s_no) 13 (fun _ => none) [] h n 0 0 := by
    intro hno
    refine g_iconst 1 dL_runBackups_13 (by rfl) ?_
    refine g_ireturn dL_runBackups_14 rfl ?_
    exact ⟨rfl, Or.inr ⟨hno, rfl, hP, f, ho⟩, fun _ _ _ => rfl⟩
  refine s_Mt_ofH rfl (by decide) (by exact Nat.le_of_ble_eq_true rfl) ?_
  refine g_aload_n dL_runBackups_0 rfl (by rfl) ?_
  refine g_iconst (nI 0) dL_runBackups_1 (by rfl) ?_
  refine g_aload_n dL_runBackups_2 rfl (by rfl) ?_
  refine g_iload_n dL_runBackups_3 rfl (by rfl) ?_
  refine g_callV_x (c_X8_runBackups hP hn ok hl x) dL_runBackups_4 (mX8_runBackups) rfl lL_48 iX8_runBackups vX8_runBackups (by decide) (by omega) (by exact hb) rfl rfl rfl rfl (Nat.le_of_ble_eq_true rfl) (Nat.le_of_ble_eq_true rfl) (Nat.le_of_ble_eq_true rfl) (fun v9 h9 z9 => ?_) (fun E9 h9 z9 => by obtain ⟨rfl, rfl, hno⟩ := z9; exact g_catch [] (0, 9, 12, 13) [] rfl (fun z hz => by cases hz) (by decide) (by decide) wl_13 (by decide) (Or.inl ⟨3, dL_runBackups_12, rfl, rfl⟩) (by decide) (kx hno))
  obtain ⟨rfl, hP, qoff, hin⟩ := z9
  have ho := (qoff o (by omega)).trans ho
  refine g_i2l dL_runBackups_7 ?_
  refine g_last' dL_runBackups_8 (by exact ho) (by omega) (by rfl) (by omega) (by omega) (fun h1 e1 => ?_)
  first | have hb_1 := s_up_off e1 (by omega) hb | have hb_1 := s_up_at e1
  first | have ho_1 := s_up_off e1 (by omega) ho | have ho_1 := s_up_at e1
  refine g_goto (tgt := 15) dL_runBackups_9 (by decide) ?_
  refine g_iconst 0 dL_runBackups_15 (by rfl) ?_
  refine g_ireturn dL_runBackups_16 rfl ?_
  exact ⟨rfl, Or.inl ⟨hin, rfl, hP.off (((s_off.rf (a := o) (b := (o + 1))).up e1 (by omega))) (by omega), _, ho_1, rfl⟩, fun j a c => ((((s_off.rf (a := o) (b := (o + 1))).up e1 (by omega))) j c).trans (qoff j a)⟩

theorem c_L_size {h : s_H} {n b o : Nat} {π : s_Pl} {f : Nat → Int64} (hP : s_pl h b π) (hn : b + 93 ≤ n) (ho : h o = .inl (1, 1, .inr (.inl f))) (hon : o < n) (hob : o < b ∨ b + 93 ≤ o) {cnt cp : Nat} (ok : d_ok π.1 cnt cp) (x : Int32) : s_Mt TL_size 1 6 [.ref b, .int x, .ref o] h n (s_rp n (fun v9 h1 => (((s_in π x) ∧ v9 = some (.int 0) ∧ s_pl h1 b π ∧ ∃ f1, h1 o = .inl (1, 1, .inr (.inl f1)) ∧ f1 0 = (((π.1.1 0 x.toNatClampNeg)) : Int32).toInt64) ∨ (¬ (s_in π x) ∧ v9 = some (.int 1) ∧ s_pl h1 b π ∧ ∃ f1, h1 o = .inl (1, 1, .inr (.inl f1)))) ∧ s_off2 h h1 b (b + 93) o (o + 1)) s_no) := by
  have hb := hP.1
  unfold s_po at hb
  have kx : ¬ (s_in π x) → s_G TL_size (s_rp n (fun v9 h1 => (((s_in π x) ∧ v9 = some (.int 0) ∧ s_pl h1 b π ∧ ∃ f1, h1 o = .inl (1, 1, .inr (.inl f1)) ∧ f1 0 = (((π.1.1 0 x.toNatClampNeg)) : Int32).toInt64) ∨ (¬ (s_in π x) ∧ v9 = some (.int 1) ∧ s_pl h1 b π ∧ ∃ f1, h1 o = .inl (1, 1, .inr (.inl f1)))) ∧ s_off2 h h1 b (b + 93) o (o + 1)) s_no) 13 (fun _ => none) [] h n 0 0 := by
    intro hno
    refine g_iconst 1 dL_size_13 (by rfl) ?_
    refine g_ireturn dL_size_14 rfl ?_
    exact ⟨rfl, Or.inr ⟨hno, rfl, hP, f, ho⟩, fun _ _ _ => rfl⟩
  refine s_Mt_ofH rfl (by decide) (by exact Nat.le_of_ble_eq_true rfl) ?_
  refine g_aload_n dL_size_0 rfl (by rfl) ?_
  refine g_iconst (nI 0) dL_size_1 (by rfl) ?_
  refine g_aload_n dL_size_2 rfl (by rfl) ?_
  refine g_iload_n dL_size_3 rfl (by rfl) ?_
  refine g_callV_x (c_X8_size hP hn ok x) dL_size_4 (mX8_size) rfl lL_56 iX8_size vX8_size (by decide) (by omega) (by exact hb) rfl rfl rfl rfl (Nat.le_of_ble_eq_true rfl) (Nat.le_of_ble_eq_true rfl) (Nat.le_of_ble_eq_true rfl) (fun v9 h9 z9 => ?_) (fun E9 h9 z9 => by obtain ⟨rfl, rfl, hno⟩ := z9; exact g_catch [] (0, 9, 12, 22) [] rfl (fun z hz => by cases hz) (by decide) (by decide) wl_22 (by decide) (Or.inl ⟨3, dL_size_12, rfl, rfl⟩) (by decide) (kx hno))
  obtain ⟨rfl, e9, hin⟩ := z9
  subst e9
  have qoff : s_off h9 h9 b (b + 93) := s_off.rf
  refine g_i2l dL_size_7 ?_
  refine g_last' dL_size_8 (by exact ho) (by omega) (by rfl) (by omega) (by omega) (fun h1 e1 => ?_)
  first | have hb_1 := s_up_off e1 (by omega) hb | have hb_1 := s_up_at e1
  first | have ho_1 := s_up_off e1 (by omega) ho | have ho_1 := s_up_at e1
  refine g_goto (tgt := 15) dL_size_9 (by decide) ?_
  refine g_iconst 0 dL_size_15 (by rfl) ?_
  refine g_ireturn dL_size_16 rfl ?_
  exact ⟨rfl, Or.inl ⟨hin, rfl, hP.off (((s_off.rf (a := o) (b := (o + 1))).up e1 (by omega))) (by omega), _, ho_1, rfl⟩, fun j a c => ((((s_off.rf (a := o) (b := (o + 1))).up e1 (by omega))) j c).trans (qoff j a)⟩

theorem c_L_value {h : s_H} {n b o : Nat} {π : s_Pl} {f : Nat → Int64} (hP : s_pl h b π) (hn : b + 93 ≤ n) (ho : h o = .inl (1, 1, .inr (.inl f))) (hon : o < n) (hob : o < b ∨ b + 93 ≤ o) {cnt cp : Nat} (ok : d_ok π.1 cnt cp) (x : Int32) : s_Mt TL_value 1 6 [.ref b, .int x, .ref o] h n (s_rp n (fun v9 h1 => (((s_in π x) ∧ v9 = some (.int 0) ∧ s_pl h1 b π ∧ ∃ f1, h1 o = .inl (1, 1, .inr (.inl f1)) ∧ f1 0 = (((π.1.1 1 x.toNatClampNeg)) : Int32).toInt64) ∨ (¬ (s_in π x) ∧ v9 = some (.int 1) ∧ s_pl h1 b π ∧ ∃ f1, h1 o = .inl (1, 1, .inr (.inl f1)))) ∧ s_off2 h h1 b (b + 93) o (o + 1)) s_no) := by
  have hb := hP.1
  unfold s_po at hb
  have kx : ¬ (s_in π x) → s_G TL_value (s_rp n (fun v9 h1 => (((s_in π x) ∧ v9 = some (.int 0) ∧ s_pl h1 b π ∧ ∃ f1, h1 o = .inl (1, 1, .inr (.inl f1)) ∧ f1 0 = (((π.1.1 1 x.toNatClampNeg)) : Int32).toInt64) ∨ (¬ (s_in π x) ∧ v9 = some (.int 1) ∧ s_pl h1 b π ∧ ∃ f1, h1 o = .inl (1, 1, .inr (.inl f1)))) ∧ s_off2 h h1 b (b + 93) o (o + 1)) s_no) 13 (fun _ => none) [] h n 0 0 := by
    intro hno
    refine g_iconst 1 dL_value_13 (by rfl) ?_
    refine g_ireturn dL_value_14 rfl ?_
    exact ⟨rfl, Or.inr ⟨hno, rfl, hP, f, ho⟩, fun _ _ _ => rfl⟩
  refine s_Mt_ofH rfl (by decide) (by exact Nat.le_of_ble_eq_true rfl) ?_
  refine g_aload_n dL_value_0 rfl (by rfl) ?_
  refine g_iconst (nI 0) dL_value_1 (by rfl) ?_
  refine g_aload_n dL_value_2 rfl (by rfl) ?_
  refine g_iload_n dL_value_3 rfl (by rfl) ?_
  refine g_callV_x (c_X8_value hP hn ok x) dL_value_4 (mX8_value) rfl lL_59 iX8_value vX8_value (by decide) (by omega) (by exact hb) rfl rfl rfl rfl (Nat.le_of_ble_eq_true rfl) (Nat.le_of_ble_eq_true rfl) (Nat.le_of_ble_eq_true rfl) (fun v9 h9 z9 => ?_) (fun E9 h9 z9 => by obtain ⟨rfl, rfl, hno⟩ := z9; exact g_catch [] (0, 9, 12, 22) [] rfl (fun z hz => by cases hz) (by decide) (by decide) wl_22 (by decide) (Or.inl ⟨3, dL_value_12, rfl, rfl⟩) (by decide) (kx hno))
  obtain ⟨rfl, e9, hin⟩ := z9
  subst e9
  have qoff : s_off h9 h9 b (b + 93) := s_off.rf
  refine g_i2l dL_value_7 ?_
  refine g_last' dL_value_8 (by exact ho) (by omega) (by rfl) (by omega) (by omega) (fun h1 e1 => ?_)
  first | have hb_1 := s_up_off e1 (by omega) hb | have hb_1 := s_up_at e1
  first | have ho_1 := s_up_off e1 (by omega) ho | have ho_1 := s_up_at e1
  refine g_goto (tgt := 15) dL_value_9 (by decide) ?_
  refine g_iconst 0 dL_value_15 (by rfl) ?_
  refine g_ireturn dL_value_16 rfl ?_
  exact ⟨rfl, Or.inl ⟨hin, rfl, hP.off (((s_off.rf (a := o) (b := (o + 1))).up e1 (by omega))) (by omega), _, ho_1, rfl⟩, fun j a c => ((((s_off.rf (a := o) (b := (o + 1))).up e1 (by omega))) j c).trans (qoff j a)⟩

theorem c_L_age {h : s_H} {n b o : Nat} {π : s_Pl} {f : Nat → Int64} (hP : s_pl h b π) (hn : b + 93 ≤ n) (ho : h o = .inl (1, 1, .inr (.inl f))) (hon : o < n) (hob : o < b ∨ b + 93 ≤ o) {cnt cp : Nat} (ok : d_ok π.1 cnt cp) (x : Int32) : s_Mt TL_age 1 6 [.ref b, .int x, .ref o] h n (s_rp n (fun v9 h1 => (((s_in π x) ∧ v9 = some (.int 0) ∧ s_pl h1 b π ∧ ∃ f1, h1 o = .inl (1, 1, .inr (.inl f1)) ∧ f1 0 = (((π.1.1 2 x.toNatClampNeg)) : Int32).toInt64) ∨ (¬ (s_in π x) ∧ v9 = some (.int 1) ∧ s_pl h1 b π ∧ ∃ f1, h1 o = .inl (1, 1, .inr (.inl f1)))) ∧ s_off2 h h1 b (b + 93) o (o + 1)) s_no) := by
  have hb := hP.1
  unfold s_po at hb
  have kx : ¬ (s_in π x) → s_G TL_age (s_rp n (fun v9 h1 => (((s_in π x) ∧ v9 = some (.int 0) ∧ s_pl h1 b π ∧ ∃ f1, h1 o = .inl (1, 1, .inr (.inl f1)) ∧ f1 0 = (((π.1.1 2 x.toNatClampNeg)) : Int32).toInt64) ∨ (¬ (s_in π x) ∧ v9 = some (.int 1) ∧ s_pl h1 b π ∧ ∃ f1, h1 o = .inl (1, 1, .inr (.inl f1)))) ∧ s_off2 h h1 b (b + 93) o (o + 1)) s_no) 13 (fun _ => none) [] h n 0 0 := by
    intro hno
    refine g_iconst 1 dL_age_13 (by rfl) ?_
    refine g_ireturn dL_age_14 rfl ?_
    exact ⟨rfl, Or.inr ⟨hno, rfl, hP, f, ho⟩, fun _ _ _ => rfl⟩
  refine s_Mt_ofH rfl (by decide) (by exact Nat.le_of_ble_eq_true rfl) ?_
  refine g_aload_n dL_age_0 rfl (by rfl) ?_
  refine g_iconst (nI 0) dL_age_1 (by rfl) ?_
  refine g_aload_n dL_age_2 rfl (by rfl) ?_
  refine g_iload_n dL_age_3 rfl (by rfl) ?_
  refine g_callV_x (c_X8_age hP hn ok x) dL_age_4 (mX8_age) rfl lL_62 iX8_age vX8_age (by decide) (by omega) (by exact hb) rfl rfl rfl rfl (Nat.le_of_ble_eq_true rfl) (Nat.le_of_ble_eq_true rfl) (Nat.le_of_ble_eq_true rfl) (fun v9 h9 z9 => ?_) (fun E9 h9 z9 => by obtain ⟨rfl, rfl, hno⟩ := z9; exact g_catch [] (0, 9, 12, 22) [] rfl (fun z hz => by cases hz) (by decide) (by decide) wl_22 (by decide) (Or.inl ⟨3, dL_age_12, rfl, rfl⟩) (by decide) (kx hno))
  obtain ⟨rfl, e9, hin⟩ := z9
  subst e9
  have qoff : s_off h9 h9 b (b + 93) := s_off.rf
  refine g_i2l dL_age_7 ?_
  refine g_last' dL_age_8 (by exact ho) (by omega) (by rfl) (by omega) (by omega) (fun h1 e1 => ?_)
  first | have hb_1 := s_up_off e1 (by omega) hb | have hb_1 := s_up_at e1
  first | have ho_1 := s_up_off e1 (by omega) ho | have ho_1 := s_up_at e1
  refine g_goto (tgt := 15) dL_age_9 (by decide) ?_
  refine g_iconst 0 dL_age_15 (by rfl) ?_
  refine g_ireturn dL_age_16 rfl ?_
  exact ⟨rfl, Or.inl ⟨hin, rfl, hP.off (((s_off.rf (a := o) (b := (o + 1))).up e1 (by omega))) (by omega), _, ho_1, rfl⟩, fun j a c => ((((s_off.rf (a := o) (b := (o + 1))).up e1 (by omega))) j c).trans (qoff j a)⟩

theorem c_L_state {h : s_H} {n b o : Nat} {π : s_Pl} {f : Nat → Int64} (hP : s_pl h b π) (hn : b + 93 ≤ n) (ho : h o = .inl (1, 1, .inr (.inl f))) (hon : o < n) (hob : o < b ∨ b + 93 ≤ o) {cnt cp : Nat} (ok : d_ok π.1 cnt cp) (x : Int32) : s_Mt TL_state 1 6 [.ref b, .int x, .ref o] h n (s_rp n (fun v9 h1 => (((s_in π x) ∧ v9 = some (.int 0) ∧ s_pl h1 b π ∧ ∃ f1, h1 o = .inl (1, 1, .inr (.inl f1)) ∧ f1 0 = (((π.1.1 3 x.toNatClampNeg)) : Int32).toInt64) ∨ (¬ (s_in π x) ∧ v9 = some (.int 1) ∧ s_pl h1 b π ∧ ∃ f1, h1 o = .inl (1, 1, .inr (.inl f1)))) ∧ s_off2 h h1 b (b + 93) o (o + 1)) s_no) := by
  have hb := hP.1
  unfold s_po at hb
  have kx : ¬ (s_in π x) → s_G TL_state (s_rp n (fun v9 h1 => (((s_in π x) ∧ v9 = some (.int 0) ∧ s_pl h1 b π ∧ ∃ f1, h1 o = .inl (1, 1, .inr (.inl f1)) ∧ f1 0 = (((π.1.1 3 x.toNatClampNeg)) : Int32).toInt64) ∨ (¬ (s_in π x) ∧ v9 = some (.int 1) ∧ s_pl h1 b π ∧ ∃ f1, h1 o = .inl (1, 1, .inr (.inl f1)))) ∧ s_off2 h h1 b (b + 93) o (o + 1)) s_no) 13 (fun _ => none) [] h n 0 0 := by
    intro hno
    refine g_iconst 1 dL_state_13 (by rfl) ?_
    refine g_ireturn dL_state_14 rfl ?_
    exact ⟨rfl, Or.inr ⟨hno, rfl, hP, f, ho⟩, fun _ _ _ => rfl⟩
  refine s_Mt_ofH rfl (by decide) (by exact Nat.le_of_ble_eq_true rfl) ?_
  refine g_aload_n dL_state_0 rfl (by rfl) ?_
  refine g_iconst (nI 0) dL_state_1 (by rfl) ?_
  refine g_aload_n dL_state_2 rfl (by rfl) ?_
  refine g_iload_n dL_state_3 rfl (by rfl) ?_
  refine g_callV_x (c_X8_state hP hn ok x) dL_state_4 (mX8_state) rfl lL_65 iX8_state vX8_state (by decide) (by omega) (by exact hb) rfl rfl rfl rfl (Nat.le_of_ble_eq_true rfl) (Nat.le_of_ble_eq_true rfl) (Nat.le_of_ble_eq_true rfl) (fun v9 h9 z9 => ?_) (fun E9 h9 z9 => by obtain ⟨rfl, rfl, hno⟩ := z9; exact g_catch [] (0, 9, 12, 22) [] rfl (fun z hz => by cases hz) (by decide) (by decide) wl_22 (by decide) (Or.inl ⟨3, dL_state_12, rfl, rfl⟩) (by decide) (kx hno))
  obtain ⟨rfl, e9, hin⟩ := z9
  subst e9
  have qoff : s_off h9 h9 b (b + 93) := s_off.rf
  refine g_i2l dL_state_7 ?_
  refine g_last' dL_state_8 (by exact ho) (by omega) (by rfl) (by omega) (by omega) (fun h1 e1 => ?_)
  first | have hb_1 := s_up_off e1 (by omega) hb | have hb_1 := s_up_at e1
  first | have ho_1 := s_up_off e1 (by omega) ho | have ho_1 := s_up_at e1
  refine g_goto (tgt := 15) dL_state_9 (by decide) ?_
  refine g_iconst 0 dL_state_15 (by rfl) ?_
  refine g_ireturn dL_state_16 rfl ?_
  exact ⟨rfl, Or.inl ⟨hin, rfl, hP.off (((s_off.rf (a := o) (b := (o + 1))).up e1 (by omega))) (by omega), _, ho_1, rfl⟩, fun j a c => ((((s_off.rf (a := o) (b := (o + 1))).up e1 (by omega))) j c).trans (qoff j a)⟩

theorem c_L_weight {h : s_H} {n b o : Nat} {π : s_Pl} {f : Nat → Int64} (hP : s_pl h b π) (hn : b + 93 ≤ n) (ho : h o = .inl (1, 1, .inr (.inl f))) (hon : o < n) (hob : o < b ∨ b + 93 ≤ o) {cnt cp : Nat} (ok : d_ok π.1 cnt cp) (x : Int32) : s_Mt TL_weight 1 6 [.ref b, .int x, .ref o] h n (s_rp n (fun v9 h1 => (((s_in π x) ∧ v9 = some (.int 0) ∧ s_pl h1 b π ∧ ∃ f1, h1 o = .inl (1, 1, .inr (.inl f1)) ∧ f1 0 = (((d_wt π.1 x.toNatClampNeg)) : Int32).toInt64) ∨ (¬ (s_in π x) ∧ v9 = some (.int 1) ∧ s_pl h1 b π ∧ ∃ f1, h1 o = .inl (1, 1, .inr (.inl f1)))) ∧ s_off2 h h1 b (b + 93) o (o + 1)) s_no) := by
  have hb := hP.1
  unfold s_po at hb
  have kx : ¬ (s_in π x) → s_G TL_weight (s_rp n (fun v9 h1 => (((s_in π x) ∧ v9 = some (.int 0) ∧ s_pl h1 b π ∧ ∃ f1, h1 o = .inl (1, 1, .inr (.inl f1)) ∧ f1 0 = (((d_wt π.1 x.toNatClampNeg)) : Int32).toInt64) ∨ (¬ (s_in π x) ∧ v9 = some (.int 1) ∧ s_pl h1 b π ∧ ∃ f1, h1 o = .inl (1, 1, .inr (.inl f1)))) ∧ s_off2 h h1 b (b + 93) o (o + 1)) s_no) 13 (fun _ => none) [] h n 0 0 := by
    intro hno
    refine g_iconst 1 dL_weight_13 (by rfl) ?_
    refine g_ireturn dL_weight_14 rfl ?_
    exact ⟨rfl, Or.inr ⟨hno, rfl, hP, f, ho⟩, fun _ _ _ => rfl⟩
  refine s_Mt_ofH rfl (by decide) (by exact Nat.le_of_ble_eq_true rfl) ?_
  refine g_aload_n dL_weight_0 rfl (by rfl) ?_
  refine g_iconst (nI 0) dL_weight_1 (by rfl) ?_
  refine g_aload_n dL_weight_2 rfl (by rfl) ?_
  refine g_iload_n dL_weight_3 rfl (by rfl) ?_
  refine g_callV_x (c_X8_weight hP hn ok x) dL_weight_4 (mX8_weight) rfl lL_68 iX8_weight vX8_weight (by decide) (by omega) (by exact hb) rfl rfl rfl rfl (Nat.le_of_ble_eq_true rfl) (Nat.le_of_ble_eq_true rfl) (Nat.le_of_ble_eq_true rfl) (fun v9 h9 z9 => ?_) (fun E9 h9 z9 => by obtain ⟨rfl, rfl, hno⟩ := z9; exact g_catch [] (0, 9, 12, 22) [] rfl (fun z hz => by cases hz) (by decide) (by decide) wl_22 (by decide) (Or.inl ⟨3, dL_weight_12, rfl, rfl⟩) (by decide) (kx hno))
  obtain ⟨rfl, e9, hin⟩ := z9
  subst e9
  have qoff : s_off h9 h9 b (b + 93) := s_off.rf
  refine g_i2l dL_weight_7 ?_
  refine g_last' dL_weight_8 (by exact ho) (by omega) (by rfl) (by omega) (by omega) (fun h1 e1 => ?_)
  first | have hb_1 := s_up_off e1 (by omega) hb | have hb_1 := s_up_at e1
  first | have ho_1 := s_up_off e1 (by omega) ho | have ho_1 := s_up_at e1
  refine g_goto (tgt := 15) dL_weight_9 (by decide) ?_
  refine g_iconst 0 dL_weight_15 (by rfl) ?_
  refine g_ireturn dL_weight_16 rfl ?_
  exact ⟨rfl, Or.inl ⟨hin, rfl, hP.off (((s_off.rf (a := o) (b := (o + 1))).up e1 (by omega))) (by omega), _, ho_1, rfl⟩, fun j a c => ((((s_off.rf (a := o) (b := (o + 1))).up e1 (by omega))) j c).trans (qoff j a)⟩

theorem c_L_weightAt {h : s_H} {n b o : Nat} {π : s_Pl} {f : Nat → Int64} (hP : s_pl h b π) (hn : b + 93 ≤ n) (ho : h o = .inl (1, 1, .inr (.inl f))) (hon : o < n) (hob : o < b ∨ b + 93 ≤ o) {cnt cp : Nat} (ok : d_ok π.1 cnt cp) (x : Int32) : s_Mt TL_weightAt 1 6 [.ref b, .int x, .ref o] h n (s_rp n (fun v9 h1 => (((¬ (x < 0 ∨ 100 < x)) ∧ v9 = some (.int 0) ∧ s_pl h1 b π ∧ ∃ f1, h1 o = .inl (1, 1, .inr (.inl f1)) ∧ f1 0 = (((r_wt (u_best π.1 cnt x.toNatClampNeg))) : Int32).toInt64) ∨ (¬ (¬ (x < 0 ∨ 100 < x)) ∧ v9 = some (.int 1) ∧ s_pl h1 b π ∧ ∃ f1, h1 o = .inl (1, 1, .inr (.inl f1)))) ∧ s_off2 h h1 b (b + 93) o (o + 1)) s_no) := by
  have hb := hP.1
  unfold s_po at hb
  have kx : ¬ (¬ (x < 0 ∨ 100 < x)) → s_G TL_weightAt (s_rp n (fun v9 h1 => (((¬ (x < 0 ∨ 100 < x)) ∧ v9 = some (.int 0) ∧ s_pl h1 b π ∧ ∃ f1, h1 o = .inl (1, 1, .inr (.inl f1)) ∧ f1 0 = (((r_wt (u_best π.1 cnt x.toNatClampNeg))) : Int32).toInt64) ∨ (¬ (¬ (x < 0 ∨ 100 < x)) ∧ v9 = some (.int 1) ∧ s_pl h1 b π ∧ ∃ f1, h1 o = .inl (1, 1, .inr (.inl f1)))) ∧ s_off2 h h1 b (b + 93) o (o + 1)) s_no) 13 (fun _ => none) [] h n 0 0 := by
    intro hno
    refine g_iconst 1 dL_weightAt_13 (by rfl) ?_
    refine g_ireturn dL_weightAt_14 rfl ?_
    exact ⟨rfl, Or.inr ⟨hno, rfl, hP, f, ho⟩, fun _ _ _ => rfl⟩
  refine s_Mt_ofH rfl (by decide) (by exact Nat.le_of_ble_eq_true rfl) ?_
  refine g_aload_n dL_weightAt_0 rfl (by rfl) ?_
  refine g_iconst (nI 0) dL_weightAt_1 (by rfl) ?_
  refine g_aload_n dL_weightAt_2 rfl (by rfl) ?_
  refine g_iload_n dL_weightAt_3 rfl (by rfl) ?_
  refine g_callV_x (c_X8_weightAt hP hn ok x) dL_weightAt_4 (mX8_weightAt) rfl lL_75 iX8_weightAt vX8_weightAt (by decide) (by omega) (by exact hb) rfl rfl rfl rfl (Nat.le_of_ble_eq_true rfl) (Nat.le_of_ble_eq_true rfl) (Nat.le_of_ble_eq_true rfl) (fun v9 h9 z9 => ?_) (fun E9 h9 z9 => by obtain ⟨rfl, rfl, hno⟩ := z9; exact g_catch [] (0, 9, 12, 13) [] rfl (fun z hz => by cases hz) (by decide) (by decide) wl_13 (by decide) (Or.inl ⟨3, dL_weightAt_12, rfl, rfl⟩) (by decide) (kx hno))
  obtain ⟨rfl, hP, qoff, hin⟩ := z9
  have ho := (qoff o (by omega)).trans ho
  refine g_i2l dL_weightAt_7 ?_
  refine g_last' dL_weightAt_8 (by exact ho) (by omega) (by rfl) (by omega) (by omega) (fun h1 e1 => ?_)
  first | have hb_1 := s_up_off e1 (by omega) hb | have hb_1 := s_up_at e1
  first | have ho_1 := s_up_off e1 (by omega) ho | have ho_1 := s_up_at e1
  refine g_goto (tgt := 15) dL_weightAt_9 (by decide) ?_
  refine g_iconst 0 dL_weightAt_15 (by rfl) ?_
  refine g_ireturn dL_weightAt_16 rfl ?_
  exact ⟨rfl, Or.inl ⟨hin, rfl, hP.off (((s_off.rf (a := o) (b := (o + 1))).up e1 (by omega))) (by omega), _, ho_1, rfl⟩, fun j a c => ((((s_off.rf (a := o) (b := (o + 1))).up e1 (by omega))) j c).trans (qoff j a)⟩

theorem c_L_planAt {h : s_H} {n b o : Nat} {π : s_Pl} {f : Nat → Int64} (hP : s_pl h b π) (hn : b + 93 ≤ n) (ho : h o = .inl (1, 1, .inr (.inl f))) (hon : o < n) (hob : o < b ∨ b + 93 ≤ o) {cnt cp : Nat} (ok : d_ok π.1 cnt cp) (x : Int32) : s_Mt TL_planAt 1 6 [.ref b, .int x, .ref o] h n (s_rp n (fun v9 h1 => (((¬ (x < 0 ∨ 100 < x)) ∧ v9 = some (.int 0) ∧ s_pl h1 b π ∧ ∃ f1, h1 o = .inl (1, 1, .inr (.inl f1)) ∧ f1 0 = (((r_st (u_best π.1 cnt x.toNatClampNeg))) : Int32).toInt64) ∨ (¬ (¬ (x < 0 ∨ 100 < x)) ∧ v9 = some (.int 1) ∧ s_pl h1 b π ∧ ∃ f1, h1 o = .inl (1, 1, .inr (.inl f1)))) ∧ s_off2 h h1 b (b + 93) o (o + 1)) s_no) := by
  have hb := hP.1
  unfold s_po at hb
  have kx : ¬ (¬ (x < 0 ∨ 100 < x)) → s_G TL_planAt (s_rp n (fun v9 h1 => (((¬ (x < 0 ∨ 100 < x)) ∧ v9 = some (.int 0) ∧ s_pl h1 b π ∧ ∃ f1, h1 o = .inl (1, 1, .inr (.inl f1)) ∧ f1 0 = (((r_st (u_best π.1 cnt x.toNatClampNeg))) : Int32).toInt64) ∨ (¬ (¬ (x < 0 ∨ 100 < x)) ∧ v9 = some (.int 1) ∧ s_pl h1 b π ∧ ∃ f1, h1 o = .inl (1, 1, .inr (.inl f1)))) ∧ s_off2 h h1 b (b + 93) o (o + 1)) s_no) 13 (fun _ => none) [] h n 0 0 := by
    intro hno
    refine g_iconst 1 dL_planAt_13 (by rfl) ?_
    refine g_ireturn dL_planAt_14 rfl ?_
    exact ⟨rfl, Or.inr ⟨hno, rfl, hP, f, ho⟩, fun _ _ _ => rfl⟩
  refine s_Mt_ofH rfl (by decide) (by exact Nat.le_of_ble_eq_true rfl) ?_
  refine g_aload_n dL_planAt_0 rfl (by rfl) ?_
  refine g_iconst (nI 0) dL_planAt_1 (by rfl) ?_
  refine g_aload_n dL_planAt_2 rfl (by rfl) ?_
  refine g_iload_n dL_planAt_3 rfl (by rfl) ?_
  refine g_callV_x (c_X8_planAt hP hn ok x) dL_planAt_4 (mX8_planAt) rfl lL_78 iX8_planAt vX8_planAt (by decide) (by omega) (by exact hb) rfl rfl rfl rfl (Nat.le_of_ble_eq_true rfl) (Nat.le_of_ble_eq_true rfl) (Nat.le_of_ble_eq_true rfl) (fun v9 h9 z9 => ?_) (fun E9 h9 z9 => by obtain ⟨rfl, rfl, hno⟩ := z9; exact g_catch [] (0, 9, 12, 13) [] rfl (fun z hz => by cases hz) (by decide) (by decide) wl_13 (by decide) (Or.inl ⟨3, dL_planAt_12, rfl, rfl⟩) (by decide) (kx hno))
  obtain ⟨rfl, hP, qoff, hin⟩ := z9
  have ho := (qoff o (by omega)).trans ho
  refine g_i2l dL_planAt_7 ?_
  refine g_last' dL_planAt_8 (by exact ho) (by omega) (by rfl) (by omega) (by omega) (fun h1 e1 => ?_)
  first | have hb_1 := s_up_off e1 (by omega) hb | have hb_1 := s_up_at e1
  first | have ho_1 := s_up_off e1 (by omega) ho | have ho_1 := s_up_at e1
  refine g_goto (tgt := 15) dL_planAt_9 (by decide) ?_
  refine g_iconst 0 dL_planAt_15 (by rfl) ?_
  refine g_ireturn dL_planAt_16 rfl ?_
  exact ⟨rfl, Or.inl ⟨hin, rfl, hP.off (((s_off.rf (a := o) (b := (o + 1))).up e1 (by omega))) (by omega), _, ho_1, rfl⟩, fun j a c => ((((s_off.rf (a := o) (b := (o + 1))).up e1 (by omega))) j c).trans (qoff j a)⟩

theorem c_L_cell {h : s_H} {n b o : Nat} {π : s_Pl} {f : Nat → Int64} (hP : s_pl h b π) (hn : b + 93 ≤ n) (ho : h o = .inl (1, 1, .inr (.inl f))) (hon : o < n) (hob : o < b ∨ b + 93 ≤ o) {cnt cp : Nat} (ok : d_ok π.1 cnt cp) (x y : Int32) : s_Mt TL_cell 1 6 [.ref b, .int x, .int y, .ref o] h n (s_rp n (fun v9 h1 => (((¬ (x < 0 ∨ s_bc (d_set π.1 0 cnt) < x ∨ y < 0 ∨ 100 < y)) ∧ v9 = some (.int 0) ∧ s_pl h1 b π ∧ ∃ f1, h1 o = .inl (1, 1, .inr (.inl f1)) ∧ f1 0 = (((u_cell π.1 cnt x.toNatClampNeg y.toNatClampNeg)) : Int32).toInt64) ∨ (¬ (¬ (x < 0 ∨ s_bc (d_set π.1 0 cnt) < x ∨ y < 0 ∨ 100 < y)) ∧ v9 = some (.int 1) ∧ s_pl h1 b π ∧ ∃ f1, h1 o = .inl (1, 1, .inr (.inl f1)))) ∧ s_off2 h h1 b (b + 93) o (o + 1)) s_no) := by
  have hb := hP.1
  unfold s_po at hb
  have kx : ¬ (¬ (x < 0 ∨ s_bc (d_set π.1 0 cnt) < x ∨ y < 0 ∨ 100 < y)) → s_G TL_cell (s_rp n (fun v9 h1 => (((¬ (x < 0 ∨ s_bc (d_set π.1 0 cnt) < x ∨ y < 0 ∨ 100 < y)) ∧ v9 = some (.int 0) ∧ s_pl h1 b π ∧ ∃ f1, h1 o = .inl (1, 1, .inr (.inl f1)) ∧ f1 0 = (((u_cell π.1 cnt x.toNatClampNeg y.toNatClampNeg)) : Int32).toInt64) ∨ (¬ (¬ (x < 0 ∨ s_bc (d_set π.1 0 cnt) < x ∨ y < 0 ∨ 100 < y)) ∧ v9 = some (.int 1) ∧ s_pl h1 b π ∧ ∃ f1, h1 o = .inl (1, 1, .inr (.inl f1)))) ∧ s_off2 h h1 b (b + 93) o (o + 1)) s_no) 15 (fun _ => none) [] h n 0 0 := by
    intro hno
    refine g_iconst 1 dL_cell_15 (by rfl) ?_
    refine g_ireturn dL_cell_16 rfl ?_
    exact ⟨rfl, Or.inr ⟨hno, rfl, hP, f, ho⟩, fun _ _ _ => rfl⟩
  refine s_Mt_ofH rfl (by decide) (by exact Nat.le_of_ble_eq_true rfl) ?_
  refine g_aload_n dL_cell_0 rfl (by rfl) ?_
  refine g_iconst (nI 0) dL_cell_1 (by rfl) ?_
  refine g_aload_n dL_cell_2 rfl (by rfl) ?_
  refine g_iload_n dL_cell_3 rfl (by rfl) ?_
  refine g_iload_n dL_cell_4 rfl (by rfl) ?_
  refine g_callV_x (c_X8_cell hP hn ok x y) dL_cell_5 (mX8_cell) rfl lL_81 iX8_cell vX8_cell (by decide) (by omega) (by exact hb) rfl rfl rfl rfl (Nat.le_of_ble_eq_true rfl) (Nat.le_of_ble_eq_true rfl) (Nat.le_of_ble_eq_true rfl) (fun v9 h9 z9 => ?_) (fun E9 h9 z9 => by obtain ⟨rfl, rfl, hno⟩ := z9; exact g_catch [] (0, 10, 13, 22) [] rfl (fun z hz => by cases hz) (by decide) (by decide) wl_22 (by decide) (Or.inr ⟨dL_cell_13, rfl⟩) (by decide) (kx hno))
  obtain ⟨rfl, hP, qoff, hin⟩ := z9
  have ho := (qoff o (by omega)).trans ho
  refine g_i2l dL_cell_8 ?_
  refine g_last' dL_cell_9 (by exact ho) (by omega) (by rfl) (by omega) (by omega) (fun h1 e1 => ?_)
  first | have hb_1 := s_up_off e1 (by omega) hb | have hb_1 := s_up_at e1
  first | have ho_1 := s_up_off e1 (by omega) ho | have ho_1 := s_up_at e1
  refine g_goto (tgt := 17) dL_cell_10 (by decide) ?_
  refine g_iconst 0 dL_cell_17 (by rfl) ?_
  refine g_ireturn dL_cell_18 rfl ?_
  exact ⟨rfl, Or.inl ⟨hin, rfl, hP.off (((s_off.rf (a := o) (b := (o + 1))).up e1 (by omega))) (by omega), _, ho_1, rfl⟩, fun j a c => ((((s_off.rf (a := o) (b := (o + 1))).up e1 (by omega))) j c).trans (qoff j a)⟩

theorem c_L_lossIfExcluded {h : s_H} {n b o : Nat} {π : s_Pl} {f : Nat → Int64} (hP : s_pl h b π) (hn : b + 93 ≤ n) (ho : h o = .inl (1, 1, .inr (.inl f))) (hon : o < n) (hob : o < b ∨ b + 93 ≤ o) {cnt cp : Nat} (ok : d_ok π.1 cnt cp) (x : Int32) : s_Mt TL_lossIfExcluded 1 6 [.ref b, .int x, .ref o] h n (s_rp n (fun v9 h1 => (((s_in π x) ∧ v9 = some (.int 0) ∧ s_pl h1 b π ∧ ∃ f1, h1 o = .inl (1, 1, .inr (.inl f1)) ∧ f1 0 = (((if u_best π.1 cnt cp = r_NP then 0 else r_wt (u_best π.1 cnt cp) - r_wt (u_best (d_put π.1 3 x.toNatClampNeg 2) cnt cp))) : Int32).toInt64) ∨ (¬ (s_in π x) ∧ v9 = some (.int 1) ∧ s_pl h1 b π ∧ ∃ f1, h1 o = .inl (1, 1, .inr (.inl f1)))) ∧ s_off2 h h1 b (b + 93) o (o + 1)) s_no) := by
  have hb := hP.1
  unfold s_po at hb
  have kx : ¬ (s_in π x) → s_G TL_lossIfExcluded (s_rp n (fun v9 h1 => (((s_in π x) ∧ v9 = some (.int 0) ∧ s_pl h1 b π ∧ ∃ f1, h1 o = .inl (1, 1, .inr (.inl f1)) ∧ f1 0 = (((if u_best π.1 cnt cp = r_NP then 0 else r_wt (u_best π.1 cnt cp) - r_wt (u_best (d_put π.1 3 x.toNatClampNeg 2) cnt cp))) : Int32).toInt64) ∨ (¬ (s_in π x) ∧ v9 = some (.int 1) ∧ s_pl h1 b π ∧ ∃ f1, h1 o = .inl (1, 1, .inr (.inl f1)))) ∧ s_off2 h h1 b (b + 93) o (o + 1)) s_no) 13 (fun _ => none) [] h n 0 0 := by
    intro hno
    refine g_iconst 1 dL_lossIfExcluded_13 (by rfl) ?_
    refine g_ireturn dL_lossIfExcluded_14 rfl ?_
    exact ⟨rfl, Or.inr ⟨hno, rfl, hP, f, ho⟩, fun _ _ _ => rfl⟩
  refine s_Mt_ofH rfl (by decide) (by exact Nat.le_of_ble_eq_true rfl) ?_
  refine g_aload_n dL_lossIfExcluded_0 rfl (by rfl) ?_
  refine g_iconst (nI 0) dL_lossIfExcluded_1 (by rfl) ?_
  refine g_aload_n dL_lossIfExcluded_2 rfl (by rfl) ?_
  refine g_iload_n dL_lossIfExcluded_3 rfl (by rfl) ?_
  refine g_callV_x (c_X8_lossIfExcluded hP hn ok x) dL_lossIfExcluded_4 (mX8_lossIfExcluded) rfl lL_88 iX8_lossIfExcluded vX8_lossIfExcluded (by decide) (by omega) (by exact hb) rfl rfl rfl rfl (Nat.le_of_ble_eq_true rfl) (Nat.le_of_ble_eq_true rfl) (Nat.le_of_ble_eq_true rfl) (fun v9 h9 z9 => ?_) (fun E9 h9 z9 => by obtain ⟨rfl, rfl, hno⟩ := z9; exact g_catch [] (0, 9, 12, 22) [] rfl (fun z hz => by cases hz) (by decide) (by decide) wl_22 (by decide) (Or.inl ⟨3, dL_lossIfExcluded_12, rfl, rfl⟩) (by decide) (kx hno))
  obtain ⟨rfl, hP, qoff, hin⟩ := z9
  have ho := (qoff o (by omega)).trans ho
  refine g_i2l dL_lossIfExcluded_7 ?_
  refine g_last' dL_lossIfExcluded_8 (by exact ho) (by omega) (by rfl) (by omega) (by omega) (fun h1 e1 => ?_)
  first | have hb_1 := s_up_off e1 (by omega) hb | have hb_1 := s_up_at e1
  first | have ho_1 := s_up_off e1 (by omega) ho | have ho_1 := s_up_at e1
  refine g_goto (tgt := 15) dL_lossIfExcluded_9 (by decide) ?_
  refine g_iconst 0 dL_lossIfExcluded_15 (by rfl) ?_
  refine g_ireturn dL_lossIfExcluded_16 rfl ?_
  exact ⟨rfl, Or.inl ⟨hin, rfl, hP.off (((s_off.rf (a := o) (b := (o + 1))).up e1 (by omega))) (by omega), _, ho_1, rfl⟩, fun j a c => ((((s_off.rf (a := o) (b := (o + 1))).up e1 (by omega))) j c).trans (qoff j a)⟩

theorem c_L_lossIfPinned {h : s_H} {n b o : Nat} {π : s_Pl} {f : Nat → Int64} (hP : s_pl h b π) (hn : b + 93 ≤ n) (ho : h o = .inl (1, 1, .inr (.inl f))) (hon : o < n) (hob : o < b ∨ b + 93 ≤ o) {cnt cp : Nat} (ok : d_ok π.1 cnt cp) (x : Int32) : s_Mt TL_lossIfPinned 1 6 [.ref b, .int x, .ref o] h n (s_rp n (fun v9 h1 => (((s_in π x) ∧ v9 = some (.int 0) ∧ s_pl h1 b π ∧ ∃ f1, h1 o = .inl (1, 1, .inr (.inl f1)) ∧ f1 0 = (((if u_best π.1 cnt cp = r_NP ∨ u_best (d_put π.1 3 x.toNatClampNeg 1) cnt cp = r_NP then -1 else r_wt (u_best π.1 cnt cp) - r_wt (u_best (d_put π.1 3 x.toNatClampNeg 1) cnt cp))) : Int32).toInt64) ∨ (¬ (s_in π x) ∧ v9 = some (.int 1) ∧ s_pl h1 b π ∧ ∃ f1, h1 o = .inl (1, 1, .inr (.inl f1)))) ∧ s_off2 h h1 b (b + 93) o (o + 1)) s_no) := by
  have hb := hP.1
  unfold s_po at hb
  have kx : ¬ (s_in π x) → s_G TL_lossIfPinned (s_rp n (fun v9 h1 => (((s_in π x) ∧ v9 = some (.int 0) ∧ s_pl h1 b π ∧ ∃ f1, h1 o = .inl (1, 1, .inr (.inl f1)) ∧ f1 0 = (((if u_best π.1 cnt cp = r_NP ∨ u_best (d_put π.1 3 x.toNatClampNeg 1) cnt cp = r_NP then -1 else r_wt (u_best π.1 cnt cp) - r_wt (u_best (d_put π.1 3 x.toNatClampNeg 1) cnt cp))) : Int32).toInt64) ∨ (¬ (s_in π x) ∧ v9 = some (.int 1) ∧ s_pl h1 b π ∧ ∃ f1, h1 o = .inl (1, 1, .inr (.inl f1)))) ∧ s_off2 h h1 b (b + 93) o (o + 1)) s_no) 13 (fun _ => none) [] h n 0 0 := by
    intro hno
    refine g_iconst 1 dL_lossIfPinned_13 (by rfl) ?_
    refine g_ireturn dL_lossIfPinned_14 rfl ?_
    exact ⟨rfl, Or.inr ⟨hno, rfl, hP, f, ho⟩, fun _ _ _ => rfl⟩
  refine s_Mt_ofH rfl (by decide) (by exact Nat.le_of_ble_eq_true rfl) ?_
  refine g_aload_n dL_lossIfPinned_0 rfl (by rfl) ?_
  refine g_iconst (nI 0) dL_lossIfPinned_1 (by rfl) ?_
  refine g_aload_n dL_lossIfPinned_2 rfl (by rfl) ?_
  refine g_iload_n dL_lossIfPinned_3 rfl (by rfl) ?_
  refine g_callV_x (c_X8_lossIfPinned hP hn ok x) dL_lossIfPinned_4 (mX8_lossIfPinned) rfl lL_91 iX8_lossIfPinned vX8_lossIfPinned (by decide) (by omega) (by exact hb) rfl rfl rfl rfl (Nat.le_of_ble_eq_true rfl) (Nat.le_of_ble_eq_true rfl) (Nat.le_of_ble_eq_true rfl) (fun v9 h9 z9 => ?_) (fun E9 h9 z9 => by obtain ⟨rfl, rfl, hno⟩ := z9; exact g_catch [] (0, 9, 12, 22) [] rfl (fun z hz => by cases hz) (by decide) (by decide) wl_22 (by decide) (Or.inl ⟨3, dL_lossIfPinned_12, rfl, rfl⟩) (by decide) (kx hno))
  obtain ⟨rfl, hP, qoff, hin⟩ := z9
  have ho := (qoff o (by omega)).trans ho
  refine g_i2l dL_lossIfPinned_7 ?_
  refine g_last' dL_lossIfPinned_8 (by exact ho) (by omega) (by rfl) (by omega) (by omega) (fun h1 e1 => ?_)
  first | have hb_1 := s_up_off e1 (by omega) hb | have hb_1 := s_up_at e1
  first | have ho_1 := s_up_off e1 (by omega) ho | have ho_1 := s_up_at e1
  refine g_goto (tgt := 15) dL_lossIfPinned_9 (by decide) ?_
  refine g_iconst 0 dL_lossIfPinned_15 (by rfl) ?_
  refine g_ireturn dL_lossIfPinned_16 rfl ?_
  exact ⟨rfl, Or.inl ⟨hin, rfl, hP.off (((s_off.rf (a := o) (b := (o + 1))).up e1 (by omega))) (by omega), _, ho_1, rfl⟩, fun j a c => ((((s_off.rf (a := o) (b := (o + 1))).up e1 (by omega))) j c).trans (qoff j a)⟩

theorem c_L_valueNeeded {h : s_H} {n b o : Nat} {π : s_Pl} {f : Nat → Int64} (hP : s_pl h b π) (hn : b + 93 ≤ n) (ho : h o = .inl (1, 1, .inr (.inl f))) (hon : o < n) (hob : o < b ∨ b + 93 ≤ o) {cnt cp : Nat} (ok : d_ok π.1 cnt cp) (x : Int32) : s_Mt TL_valueNeeded 1 6 [.ref b, .int x, .ref o] h n (s_rp n (fun v9 h1 => (((s_in π x) ∧ v9 = some (.int 0) ∧ s_pl h1 b π ∧ ∃ f1, h1 o = .inl (1, 1, .inr (.inl f1)) ∧ f1 0 = (((if ¬ π.1.1 3 x.toNatClampNeg = 0 then -1 else if u_bestI (d_put π.1 3 x.toNatClampNeg 2) cnt (nI cp - π.1.1 0 x.toNatClampNeg) = r_NP then -1 else (v_vn (u_bestI (d_put π.1 3 x.toNatClampNeg 2) cnt (nI cp - π.1.1 0 x.toNatClampNeg)) (u_best (d_put π.1 3 x.toNatClampNeg 2) cnt cp) (π.1.1 2 x.toNatClampNeg) (π.1.1 0 x.toNatClampNeg) ((1 : Int32) <<< (nI x.toNatClampNeg &&& 31)) 1000 0))) : Int32).toInt64) ∨ (¬ (s_in π x) ∧ v9 = some (.int 1) ∧ s_pl h1 b π ∧ ∃ f1, h1 o = .inl (1, 1, .inr (.inl f1)))) ∧ s_off2 h h1 b (b + 93) o (o + 1)) s_no) := by
  have hb := hP.1
  unfold s_po at hb
  have kx : ¬ (s_in π x) → s_G TL_valueNeeded (s_rp n (fun v9 h1 => (((s_in π x) ∧ v9 = some (.int 0) ∧ s_pl h1 b π ∧ ∃ f1, h1 o = .inl (1, 1, .inr (.inl f1)) ∧ f1 0 = (((if ¬ π.1.1 3 x.toNatClampNeg = 0 then -1 else if u_bestI (d_put π.1 3 x.toNatClampNeg 2) cnt (nI cp - π.1.1 0 x.toNatClampNeg) = r_NP then -1 else (v_vn (u_bestI (d_put π.1 3 x.toNatClampNeg 2) cnt (nI cp - π.1.1 0 x.toNatClampNeg)) (u_best (d_put π.1 3 x.toNatClampNeg 2) cnt cp) (π.1.1 2 x.toNatClampNeg) (π.1.1 0 x.toNatClampNeg) ((1 : Int32) <<< (nI x.toNatClampNeg &&& 31)) 1000 0))) : Int32).toInt64) ∨ (¬ (s_in π x) ∧ v9 = some (.int 1) ∧ s_pl h1 b π ∧ ∃ f1, h1 o = .inl (1, 1, .inr (.inl f1)))) ∧ s_off2 h h1 b (b + 93) o (o + 1)) s_no) 13 (fun _ => none) [] h n 0 0 := by
    intro hno
    refine g_iconst 1 dL_valueNeeded_13 (by rfl) ?_
    refine g_ireturn dL_valueNeeded_14 rfl ?_
    exact ⟨rfl, Or.inr ⟨hno, rfl, hP, f, ho⟩, fun _ _ _ => rfl⟩
  refine s_Mt_ofH rfl (by decide) (by exact Nat.le_of_ble_eq_true rfl) ?_
  refine g_aload_n dL_valueNeeded_0 rfl (by rfl) ?_
  refine g_iconst (nI 0) dL_valueNeeded_1 (by rfl) ?_
  refine g_aload_n dL_valueNeeded_2 rfl (by rfl) ?_
  refine g_iload_n dL_valueNeeded_3 rfl (by rfl) ?_
  refine g_callV_x (c_X8_valueNeeded hP hn ok x) dL_valueNeeded_4 (mX8_valueNeeded) rfl lL_94 iX8_valueNeeded vX8_valueNeeded (by decide) (by omega) (by exact hb) rfl rfl rfl rfl (Nat.le_of_ble_eq_true rfl) (Nat.le_of_ble_eq_true rfl) (Nat.le_of_ble_eq_true rfl) (fun v9 h9 z9 => ?_) (fun E9 h9 z9 => by obtain ⟨rfl, rfl, hno⟩ := z9; exact g_catch [] (0, 9, 12, 22) [] rfl (fun z hz => by cases hz) (by decide) (by decide) wl_22 (by decide) (Or.inl ⟨3, dL_valueNeeded_12, rfl, rfl⟩) (by decide) (kx hno))
  obtain ⟨rfl, hP, qoff, hin⟩ := z9
  have ho := (qoff o (by omega)).trans ho
  refine g_i2l dL_valueNeeded_7 ?_
  refine g_last' dL_valueNeeded_8 (by exact ho) (by omega) (by rfl) (by omega) (by omega) (fun h1 e1 => ?_)
  first | have hb_1 := s_up_off e1 (by omega) hb | have hb_1 := s_up_at e1
  first | have ho_1 := s_up_off e1 (by omega) ho | have ho_1 := s_up_at e1
  refine g_goto (tgt := 15) dL_valueNeeded_9 (by decide) ?_
  refine g_iconst 0 dL_valueNeeded_15 (by rfl) ?_
  refine g_ireturn dL_valueNeeded_16 rfl ?_
  exact ⟨rfl, Or.inl ⟨hin, rfl, hP.off (((s_off.rf (a := o) (b := (o + 1))).up e1 (by omega))) (by omega), _, ho_1, rfl⟩, fun j a c => ((((s_off.rf (a := o) (b := (o + 1))).up e1 (by omega))) j c).trans (qoff j a)⟩

theorem c_L_takenInBackup {h : s_H} {n b o : Nat} {π : s_Pl} {f : Nat → Int64} (hP : s_pl h b π) (hn : b + 93 ≤ n) (ho : h o = .inl (1, 1, .inr (.inl f))) (hon : o < n) (hob : o < b ∨ b + 93 ≤ o) {cnt cp : Nat} (ok : d_ok π.1 cnt cp) (x : Int32) : s_Mt TL_takenInBackup 1 6 [.ref b, .int x, .ref o] h n (s_rp n (fun v9 h1 => (((¬ (x < 1 ∨ 50 < x)) ∧ v9 = some (.int 0) ∧ s_pl h1 b π ∧ ∃ f1, h1 o = .inl (1, 1, .inr (.inl f1)) ∧ f1 0 = (((v_lt π.1 cnt cp x.toNatClampNeg)) : Int32).toInt64) ∨ (¬ (¬ (x < 1 ∨ 50 < x)) ∧ v9 = some (.int 1) ∧ s_pl h1 b π ∧ ∃ f1, h1 o = .inl (1, 1, .inr (.inl f1)))) ∧ s_off2 h h1 b (b + 93) o (o + 1)) s_no) := by
  have hb := hP.1
  unfold s_po at hb
  have kx : ¬ (¬ (x < 1 ∨ 50 < x)) → s_G TL_takenInBackup (s_rp n (fun v9 h1 => (((¬ (x < 1 ∨ 50 < x)) ∧ v9 = some (.int 0) ∧ s_pl h1 b π ∧ ∃ f1, h1 o = .inl (1, 1, .inr (.inl f1)) ∧ f1 0 = (((v_lt π.1 cnt cp x.toNatClampNeg)) : Int32).toInt64) ∨ (¬ (¬ (x < 1 ∨ 50 < x)) ∧ v9 = some (.int 1) ∧ s_pl h1 b π ∧ ∃ f1, h1 o = .inl (1, 1, .inr (.inl f1)))) ∧ s_off2 h h1 b (b + 93) o (o + 1)) s_no) 13 (fun _ => none) [] h n 0 0 := by
    intro hno
    refine g_iconst 1 dL_takenInBackup_13 (by rfl) ?_
    refine g_ireturn dL_takenInBackup_14 rfl ?_
    exact ⟨rfl, Or.inr ⟨hno, rfl, hP, f, ho⟩, fun _ _ _ => rfl⟩
  refine s_Mt_ofH rfl (by decide) (by exact Nat.le_of_ble_eq_true rfl) ?_
  refine g_aload_n dL_takenInBackup_0 rfl (by rfl) ?_
  refine g_iconst (nI 0) dL_takenInBackup_1 (by rfl) ?_
  refine g_aload_n dL_takenInBackup_2 rfl (by rfl) ?_
  refine g_iload_n dL_takenInBackup_3 rfl (by rfl) ?_
  refine g_callV_x (c_X8_takenInBackup hP hn ok x) dL_takenInBackup_4 (mX8_takenInBackup) rfl lL_97 iX8_takenInBackup vX8_takenInBackup (by decide) (by omega) (by exact hb) rfl rfl rfl rfl (Nat.le_of_ble_eq_true rfl) (Nat.le_of_ble_eq_true rfl) (Nat.le_of_ble_eq_true rfl) (fun v9 h9 z9 => ?_) (fun E9 h9 z9 => by obtain ⟨rfl, rfl, hno⟩ := z9; exact g_catch [] (0, 9, 12, 13) [] rfl (fun z hz => by cases hz) (by decide) (by decide) wl_13 (by decide) (Or.inl ⟨3, dL_takenInBackup_12, rfl, rfl⟩) (by decide) (kx hno))
  obtain ⟨rfl, hP, qoff, hin⟩ := z9
  have ho := (qoff o (by omega)).trans ho
  refine g_i2l dL_takenInBackup_7 ?_
  refine g_last' dL_takenInBackup_8 (by exact ho) (by omega) (by rfl) (by omega) (by omega) (fun h1 e1 => ?_)
  first | have hb_1 := s_up_off e1 (by omega) hb | have hb_1 := s_up_at e1
  first | have ho_1 := s_up_off e1 (by omega) ho | have ho_1 := s_up_at e1
  refine g_goto (tgt := 15) dL_takenInBackup_9 (by decide) ?_
  refine g_iconst 0 dL_takenInBackup_15 (by rfl) ?_
  refine g_ireturn dL_takenInBackup_16 rfl ?_
  exact ⟨rfl, Or.inl ⟨hin, rfl, hP.off (((s_off.rf (a := o) (b := (o + 1))).up e1 (by omega))) (by omega), _, ho_1, rfl⟩, fun j a c => ((((s_off.rf (a := o) (b := (o + 1))).up e1 (by omega))) j c).trans (qoff j a)⟩

theorem c_L_backupsUntil {h : s_H} {n b o : Nat} {π : s_Pl} {f : Nat → Int64} (hP : s_pl h b π) (hn : b + 93 ≤ n) (ho : h o = .inl (1, 1, .inr (.inl f))) (hon : o < n) (hob : o < b ∨ b + 93 ≤ o) {cnt cp : Nat} (ok : d_ok π.1 cnt cp) (x : Int32) : s_Mt TL_backupsUntil 1 6 [.ref b, .int x, .ref o] h n (s_rp n (fun v9 h1 => (((s_in π x) ∧ v9 = some (.int 0) ∧ s_pl h1 b π ∧ ∃ f1, h1 o = .inl (1, 1, .inr (.inl f1)) ∧ f1 0 = (((v_bu π.1 cnt cp x.toNatClampNeg 50 0)) : Int32).toInt64) ∨ (¬ (s_in π x) ∧ v9 = some (.int 1) ∧ s_pl h1 b π ∧ ∃ f1, h1 o = .inl (1, 1, .inr (.inl f1)))) ∧ s_off2 h h1 b (b + 93) o (o + 1)) s_no) := by
  have hb := hP.1
  unfold s_po at hb
  have kx : ¬ (s_in π x) → s_G TL_backupsUntil (s_rp n (fun v9 h1 => (((s_in π x) ∧ v9 = some (.int 0) ∧ s_pl h1 b π ∧ ∃ f1, h1 o = .inl (1, 1, .inr (.inl f1)) ∧ f1 0 = (((v_bu π.1 cnt cp x.toNatClampNeg 50 0)) : Int32).toInt64) ∨ (¬ (s_in π x) ∧ v9 = some (.int 1) ∧ s_pl h1 b π ∧ ∃ f1, h1 o = .inl (1, 1, .inr (.inl f1)))) ∧ s_off2 h h1 b (b + 93) o (o + 1)) s_no) 13 (fun _ => none) [] h n 0 0 := by
    intro hno
    refine g_iconst 1 dL_backupsUntil_13 (by rfl) ?_
    refine g_ireturn dL_backupsUntil_14 rfl ?_
    exact ⟨rfl, Or.inr ⟨hno, rfl, hP, f, ho⟩, fun _ _ _ => rfl⟩
  refine s_Mt_ofH rfl (by decide) (by exact Nat.le_of_ble_eq_true rfl) ?_
  refine g_aload_n dL_backupsUntil_0 rfl (by rfl) ?_
  refine g_iconst (nI 0) dL_backupsUntil_1 (by rfl) ?_
  refine g_aload_n dL_backupsUntil_2 rfl (by rfl) ?_
  refine g_iload_n dL_backupsUntil_3 rfl (by rfl) ?_
  refine g_callV_x (c_X8_backupsUntil hP hn ok x) dL_backupsUntil_4 (mX8_backupsUntil) rfl lL_100 iX8_backupsUntil vX8_backupsUntil (by decide) (by omega) (by exact hb) rfl rfl rfl rfl (Nat.le_of_ble_eq_true rfl) (Nat.le_of_ble_eq_true rfl) (Nat.le_of_ble_eq_true rfl) (fun v9 h9 z9 => ?_) (fun E9 h9 z9 => by obtain ⟨rfl, rfl, hno⟩ := z9; exact g_catch [] (0, 9, 12, 22) [] rfl (fun z hz => by cases hz) (by decide) (by decide) wl_22 (by decide) (Or.inl ⟨3, dL_backupsUntil_12, rfl, rfl⟩) (by decide) (kx hno))
  obtain ⟨rfl, hP, qoff, hin⟩ := z9
  have ho := (qoff o (by omega)).trans ho
  refine g_i2l dL_backupsUntil_7 ?_
  refine g_last' dL_backupsUntil_8 (by exact ho) (by omega) (by rfl) (by omega) (by omega) (fun h1 e1 => ?_)
  first | have hb_1 := s_up_off e1 (by omega) hb | have hb_1 := s_up_at e1
  first | have ho_1 := s_up_off e1 (by omega) ho | have ho_1 := s_up_at e1
  refine g_goto (tgt := 15) dL_backupsUntil_9 (by decide) ?_
  refine g_iconst 0 dL_backupsUntil_15 (by rfl) ?_
  refine g_ireturn dL_backupsUntil_16 rfl ?_
  exact ⟨rfl, Or.inl ⟨hin, rfl, hP.off (((s_off.rf (a := o) (b := (o + 1))).up e1 (by omega))) (by omega), _, ho_1, rfl⟩, fun j a c => ((((s_off.rf (a := o) (b := (o + 1))).up e1 (by omega))) j c).trans (qoff j a)⟩

theorem c_L_neglected {h : s_H} {n b o : Nat} {π : s_Pl} {f : Nat → Int64} (hP : s_pl h b π) (hn : b + 93 ≤ n) (ho : h o = .inl (1, 1, .inr (.inl f))) (hon : o < n) (hob : o < b ∨ b + 93 ≤ o) {cnt cp : Nat} (ok : d_ok π.1 cnt cp) (x : Int32) : s_Mt TL_neglected 1 6 [.ref b, .int x, .ref o] h n (s_rp n (fun v9 h1 => (((¬ (x < 1 ∨ 50 < x)) ∧ v9 = some (.int 0) ∧ s_pl h1 b π ∧ ∃ f1, h1 o = .inl (1, 1, .inr (.inl f1)) ∧ f1 0 = ((((((1 : Int32) <<< (nI cnt &&& 31)) - 1) &&& (v_un π.1 cnt cp x.toNatClampNeg ^^^ -1))) : Int32).toInt64) ∨ (¬ (¬ (x < 1 ∨ 50 < x)) ∧ v9 = some (.int 1) ∧ s_pl h1 b π ∧ ∃ f1, h1 o = .inl (1, 1, .inr (.inl f1)))) ∧ s_off2 h h1 b (b + 93) o (o + 1)) s_no) := by
  have hb := hP.1
  unfold s_po at hb
  have kx : ¬ (¬ (x < 1 ∨ 50 < x)) → s_G TL_neglected (s_rp n (fun v9 h1 => (((¬ (x < 1 ∨ 50 < x)) ∧ v9 = some (.int 0) ∧ s_pl h1 b π ∧ ∃ f1, h1 o = .inl (1, 1, .inr (.inl f1)) ∧ f1 0 = ((((((1 : Int32) <<< (nI cnt &&& 31)) - 1) &&& (v_un π.1 cnt cp x.toNatClampNeg ^^^ -1))) : Int32).toInt64) ∨ (¬ (¬ (x < 1 ∨ 50 < x)) ∧ v9 = some (.int 1) ∧ s_pl h1 b π ∧ ∃ f1, h1 o = .inl (1, 1, .inr (.inl f1)))) ∧ s_off2 h h1 b (b + 93) o (o + 1)) s_no) 13 (fun _ => none) [] h n 0 0 := by
    intro hno
    refine g_iconst 1 dL_neglected_13 (by rfl) ?_
    refine g_ireturn dL_neglected_14 rfl ?_
    exact ⟨rfl, Or.inr ⟨hno, rfl, hP, f, ho⟩, fun _ _ _ => rfl⟩
  refine s_Mt_ofH rfl (by decide) (by exact Nat.le_of_ble_eq_true rfl) ?_
  refine g_aload_n dL_neglected_0 rfl (by rfl) ?_
  refine g_iconst (nI 0) dL_neglected_1 (by rfl) ?_
  refine g_aload_n dL_neglected_2 rfl (by rfl) ?_
  refine g_iload_n dL_neglected_3 rfl (by rfl) ?_
  refine g_callV_x (c_X8_neglected hP hn ok x) dL_neglected_4 (mX8_neglected) rfl lL_103 iX8_neglected vX8_neglected (by decide) (by omega) (by exact hb) rfl rfl rfl rfl (Nat.le_of_ble_eq_true rfl) (Nat.le_of_ble_eq_true rfl) (Nat.le_of_ble_eq_true rfl) (fun v9 h9 z9 => ?_) (fun E9 h9 z9 => by obtain ⟨rfl, rfl, hno⟩ := z9; exact g_catch [] (0, 9, 12, 13) [] rfl (fun z hz => by cases hz) (by decide) (by decide) wl_13 (by decide) (Or.inl ⟨3, dL_neglected_12, rfl, rfl⟩) (by decide) (kx hno))
  obtain ⟨rfl, hP, qoff, hin⟩ := z9
  have ho := (qoff o (by omega)).trans ho
  refine g_i2l dL_neglected_7 ?_
  refine g_last' dL_neglected_8 (by exact ho) (by omega) (by rfl) (by omega) (by omega) (fun h1 e1 => ?_)
  first | have hb_1 := s_up_off e1 (by omega) hb | have hb_1 := s_up_at e1
  first | have ho_1 := s_up_off e1 (by omega) ho | have ho_1 := s_up_at e1
  refine g_goto (tgt := 15) dL_neglected_9 (by decide) ?_
  refine g_iconst 0 dL_neglected_15 (by rfl) ?_
  refine g_ireturn dL_neglected_16 rfl ?_
  exact ⟨rfl, Or.inl ⟨hin, rfl, hP.off (((s_off.rf (a := o) (b := (o + 1))).up e1 (by omega))) (by omega), _, ho_1, rfl⟩, fun j a c => ((((s_off.rf (a := o) (b := (o + 1))).up e1 (by omega))) j c).trans (qoff j a)⟩

theorem c_L_writeRow {h : s_H} {n b o : Nat} {π : s_Pl} {f : Nat → Int64} (hP : s_pl h b π) (hn : b + 93 ≤ n) (ho : h o = .inl (1, 1, .inr (.inl f))) (hon : o < n) (hob : o < b ∨ b + 93 ≤ o) {cnt cp : Nat} (ok : d_ok π.1 cnt cp) (x : Int32) (hcell : ∀ r, r ≤ u_nf π.1 cnt → ∀ c, c ≤ 100 → ∃ v, u_cell π.1 cnt r c = nI v ∧ v < 1000000) : s_Mt TL_writeRow 1 6 [.ref b, .int x, .ref o] h n (s_rp n (fun v9 h1 => (((¬ (x < 0 ∨ s_bc (d_set π.1 0 cnt) < x ∨ (0 : Int32) < 0 ∨ (100 : Int32) < 0)) ∧ v9 = some (.int 0) ∧ s_pl h1 b (pl_L π (w_rw (u_cell π.1 cnt x.toNatClampNeg) 101)) ∧ ∃ f1, h1 o = .inl (1, 1, .inr (.inl f1)) ∧ f1 0 = (((nI (w_rw (u_cell π.1 cnt x.toNatClampNeg) 101).length)) : Int32).toInt64) ∨ (¬ (¬ (x < 0 ∨ s_bc (d_set π.1 0 cnt) < x ∨ (0 : Int32) < 0 ∨ (100 : Int32) < 0)) ∧ v9 = some (.int 1) ∧ s_pl h1 b π ∧ ∃ f1, h1 o = .inl (1, 1, .inr (.inl f1)))) ∧ s_off2 h h1 b (b + 93) o (o + 1)) s_no) := by
  have hb := hP.1
  unfold s_po at hb
  have kx : ¬ (¬ (x < 0 ∨ s_bc (d_set π.1 0 cnt) < x ∨ (0 : Int32) < 0 ∨ (100 : Int32) < 0)) → s_G TL_writeRow (s_rp n (fun v9 h1 => (((¬ (x < 0 ∨ s_bc (d_set π.1 0 cnt) < x ∨ (0 : Int32) < 0 ∨ (100 : Int32) < 0)) ∧ v9 = some (.int 0) ∧ s_pl h1 b (pl_L π (w_rw (u_cell π.1 cnt x.toNatClampNeg) 101)) ∧ ∃ f1, h1 o = .inl (1, 1, .inr (.inl f1)) ∧ f1 0 = (((nI (w_rw (u_cell π.1 cnt x.toNatClampNeg) 101).length)) : Int32).toInt64) ∨ (¬ (¬ (x < 0 ∨ s_bc (d_set π.1 0 cnt) < x ∨ (0 : Int32) < 0 ∨ (100 : Int32) < 0)) ∧ v9 = some (.int 1) ∧ s_pl h1 b π ∧ ∃ f1, h1 o = .inl (1, 1, .inr (.inl f1)))) ∧ s_off2 h h1 b (b + 93) o (o + 1)) s_no) 13 (fun _ => none) [] h n 0 0 := by
    intro hno
    refine g_iconst 1 dL_writeRow_13 (by rfl) ?_
    refine g_ireturn dL_writeRow_14 rfl ?_
    exact ⟨rfl, Or.inr ⟨hno, rfl, hP, f, ho⟩, fun _ _ _ => rfl⟩
  refine s_Mt_ofH rfl (by decide) (by exact Nat.le_of_ble_eq_true rfl) ?_
  refine g_aload_n dL_writeRow_0 rfl (by rfl) ?_
  refine g_iconst (nI 0) dL_writeRow_1 (by rfl) ?_
  refine g_aload_n dL_writeRow_2 rfl (by rfl) ?_
  refine g_iload_n dL_writeRow_3 rfl (by rfl) ?_
  refine g_callV_x (c_X8_writeRow hP hn ok x hcell) dL_writeRow_4 (mX8_writeRow) rfl lL_106 iX8_writeRow vX8_writeRow (by decide) (by omega) (by exact hb) rfl rfl rfl rfl (Nat.le_of_ble_eq_true rfl) (Nat.le_of_ble_eq_true rfl) (Nat.le_of_ble_eq_true rfl) (fun v9 h9 z9 => ?_) (fun E9 h9 z9 => by obtain ⟨rfl, rfl, hno⟩ := z9; exact g_catch [] (0, 9, 12, 22) [] rfl (fun z hz => by cases hz) (by decide) (by decide) wl_22 (by decide) (Or.inl ⟨3, dL_writeRow_12, rfl, rfl⟩) (by decide) (kx hno))
  obtain ⟨rfl, hP, qoff, hin⟩ := z9
  have ho := (qoff o (by omega)).trans ho
  refine g_i2l dL_writeRow_7 ?_
  refine g_last' dL_writeRow_8 (by exact ho) (by omega) (by rfl) (by omega) (by omega) (fun h1 e1 => ?_)
  first | have hb_1 := s_up_off e1 (by omega) hb | have hb_1 := s_up_at e1
  first | have ho_1 := s_up_off e1 (by omega) ho | have ho_1 := s_up_at e1
  refine g_goto (tgt := 15) dL_writeRow_9 (by decide) ?_
  refine g_iconst 0 dL_writeRow_15 (by rfl) ?_
  refine g_ireturn dL_writeRow_16 rfl ?_
  exact ⟨rfl, Or.inl ⟨hin, rfl, hP.off (((s_off.rf (a := o) (b := (o + 1))).up e1 (by omega))) (by omega), _, ho_1, rfl⟩, fun j a c => ((((s_off.rf (a := o) (b := (o + 1))).up e1 (by omega))) j c).trans (qoff j a)⟩
