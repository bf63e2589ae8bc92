/-! THE LAW'S HELPERS -/
theorem s_pl.off {h h1 : s_H} {b x y : Nat} {π : s_Pl} (q : s_pl h b π) (z : s_off h h1 x y) (hd : b + 93 ≤ x ∨ y ≤ b) : s_pl h1 b π := by
  have key : ∀ c e, c ≤ 93 → b + c ≤ x ∨ y ≤ b + e := fun c e h1 => by omega
  obtain ⟨q1, q2, q3, q4, q5, q6, q7, q8, q9⟩ := q.mv z
  exact ⟨q1 (key 1 0 (by decide)), q2 (key 6 1 (by decide)), q3 (key 16 11 (by decide)), q4 (key 11 6 (by decide)), q5 (key 68 16 (by decide)), q6 (key 87 68 (by decide)), q7 (key 89 87 (by decide)), q8 (key 91 89 (by decide)), q9 (key 93 91 (by decide))⟩
theorem wl_22 : Cond.classLink RL 22 "java/lang/IndexOutOfBoundsException" ∈ s_WL := s_WL_of 848 (by decide +kernel) rfl

theorem c_L_pin {h : s_H} {n b o : Nat} {π : s_Pl} {f : Nat → Int64} (hP : s_pl h b π) (hn : b + 93 ≤ n) (ho : h o = .inl (1, 1, .inr (.inl f))) (hon : o < n) (hob : o < b ∨ b + 93 ≤ o) {cnt cp : Nat} (ok : d_ok π.1 cnt cp) (hl : π.2.2.2.2.1 ≤ 10) (x : Int32) : s_Mt TL_pin 1 6 [.ref b, .int x, .ref o] h n (s_rp n (fun v9 h1 => ((s_in π x ∧ v9 = some (.int 0) ∧ s_pl h1 b (d_put π.1 3 x.toNatClampNeg 1, (pl_rem π).2) ∧ ∃ f1, h1 o = .inl (1, 1, .inr (.inl f1)) ∧ f1 0 = (π.1.1 3 x.toNatClampNeg).toInt64) ∨ (¬ s_in π x ∧ v9 = some (.int 1) ∧ s_pl h1 b π ∧ ∃ f1, h1 o = .inl (1, 1, .inr (.inl f1)))) ∧ s_off2 h h1 b (b + 93) o (o + 1)) s_no) := by
  have hb := hP.1
  unfold s_po at hb
  have kx : ¬ s_in π x → s_G TL_pin (s_rp n (fun v9 h1 => ((s_in π x ∧ v9 = some (.int 0) ∧ s_pl h1 b (d_put π.1 3 x.toNatClampNeg 1, (pl_rem π).2) ∧ ∃ f1, h1 o = .inl (1, 1, .inr (.inl f1)) ∧ f1 0 = (π.1.1 3 x.toNatClampNeg).toInt64) ∨ (¬ s_in π x ∧ v9 = some (.int 1) ∧ s_pl h1 b π ∧ ∃ f1, h1 o = .inl (1, 1, .inr (.inl f1)))) ∧ s_off2 h h1 b (b + 93) o (o + 1)) s_no) 13 (fun _ => none) [] h n 0 0 := by
    intro hno
    refine g_iconst 1 dL_pin_13 (by rfl) ?_
    refine g_ireturn dL_pin_14 rfl ?_
    exact ⟨rfl, Or.inr ⟨hno, rfl, hP, f, ho⟩, fun _ _ _ => rfl⟩
  refine s_Mt_ofH rfl (by decide) (by exact Nat.le_of_ble_eq_true rfl) ?_
  refine g_aload_n dL_pin_0 rfl (by rfl) ?_
  refine g_iconst (nI 0) dL_pin_1 (by rfl) ?_
  refine g_aload_n dL_pin_2 rfl (by rfl) ?_
  refine g_iload_n dL_pin_3 rfl (by rfl) ?_
  refine g_callV_x (c_X8_pin hP hn ok hl x) dL_pin_4 (mX8_pin) rfl lL_30 iX8_pin vX8_pin (by decide) (by omega) (by exact hb) rfl rfl rfl rfl (Nat.le_of_ble_eq_true rfl) (Nat.le_of_ble_eq_true rfl) (Nat.le_of_ble_eq_true rfl) (fun v9 h9 z9 => ?_) (fun E9 h9 z9 => by obtain ⟨rfl, rfl, hno⟩ := z9; exact g_catch [] (0, 9, 12, 22) [] rfl (fun z hz => by cases hz) (by decide) (by decide) wl_22 (by decide) (Or.inl ⟨3, dL_pin_12, rfl, rfl⟩) (by decide) (kx hno))
  obtain ⟨rfl, hP, qoff, hin⟩ := z9
  have ho := (qoff o (by omega)).trans ho
  refine g_i2l dL_pin_7 ?_
  refine g_last' dL_pin_8 (by exact ho) (by omega) (by rfl) (by omega) (by omega) (fun h1 e1 => ?_)
  first | have hb_1 := s_up_off e1 (by omega) hb | have hb_1 := s_up_at e1
  first | have ho_1 := s_up_off e1 (by omega) ho | have ho_1 := s_up_at e1
  refine g_goto (tgt := 15) dL_pin_9 (by decide) ?_
  refine g_iconst 0 dL_pin_15 (by rfl) ?_
  refine g_ireturn dL_pin_16 rfl ?_
  exact ⟨rfl, Or.inl ⟨hin, rfl, hP.off (((s_off.rf (a := o) (b := (o + 1))).up e1 (by omega))) (by omega), _, ho_1, rfl⟩, fun j a c => ((((s_off.rf (a := o) (b := (o + 1))).up e1 (by omega))) j c).trans (qoff j a)⟩
