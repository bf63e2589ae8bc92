/-! THE MODEL: what it looks for -/
theorem m_fc {σ : s_D} {cnt cp c : Nat} (ok : d_ok σ cnt cp) (hc : c ≤ 100) (x : Int32) : (¬ u_best σ cnt c = r_NP ∧ x ≤ r_wt (u_best σ cnt c)) ↔ (if x < 0 then 0 else x) ≤ r_wt (u_best σ cnt c) := by
  have h14 := ok.2.1
  by_cases hr : k_P σ cnt ≤ c
  · obtain ⟨h1, -, -, -, h5⟩ := k_tell ok hc hr
    have hb := (k_psb ok (t := k_T σ cnt (c - k_P σ cnt)) cnt (Nat.le_refl _)).2
    rw [h1]
    by_cases hx : x < 0
    · rw [if_pos hx]
      refine ⟨fun _ => nI_le (a := 0) (by omega) (by omega), fun _ => ⟨h5, ?_⟩⟩
      rw [Int32.le_iff_toInt_le, nI_ti (by omega)]
      have := Int32.lt_iff_toInt_lt.mp hx
      have e0 : (0 : Int32).toInt = 0 := rfl
      omega
    · rw [if_neg hx]
      exact ⟨fun z => z.2, fun z => ⟨h5, z⟩⟩
  · have h5 := k_none ok hc (by omega)
    rw [h5, m_wt_NP]
    refine ⟨fun z => absurd rfl z.1, fun z => ?_⟩
    exfalso
    have e1 : (-1 : Int32).toInt = -1 := by decide
    have e0 : (0 : Int32).toInt = 0 := rfl
    rw [Int32.le_iff_toInt_le, e1] at z
    by_cases hx : x < 0
    · rw [if_pos hx, e0] at z
      omega
    · rw [if_neg hx] at z
      have := Int32.lt_iff_toInt_lt.mpr (show x.toInt < (0 : Int32).toInt by omega)
      exact hx this
/-- one more than a weight -/
theorem m_wt_s {σ : s_D} {cnt cp c c2 : Nat} (ok : d_ok σ cnt cp) (hc : c ≤ 100) (hc2 : c2 ≤ 100) : r_wt (u_best σ cnt c) < r_wt (u_best σ cnt c2) ↔ r_wt (u_best σ cnt c) + 1 ≤ r_wt (u_best σ cnt c2) := by
  have h14 := ok.2.1
  have key : ∀ c, c ≤ 100 → -1 ≤ (r_wt (u_best σ cnt c)).toInt ∧ (r_wt (u_best σ cnt c)).toInt ≤ 1000000 := fun c hc => by
    by_cases hr : k_P σ cnt ≤ c
    · obtain ⟨h1, -, -, -, h5⟩ := k_tell ok hc hr
      have hb := (k_psb ok (t := k_T σ cnt (c - k_P σ cnt)) cnt (Nat.le_refl _)).2
      rw [h1, nI_ti (by omega)]
      omega
    · rw [k_none ok hc (by omega), m_wt_NP, show (-1 : Int32).toInt = -1 from by decide]
      omega
  have h1 := key c hc
  have h2 := key c2 hc2
  have e : (r_wt (u_best σ cnt c) + 1).toInt = (r_wt (u_best σ cnt c)).toInt + 1 := by
    rw [Int32.toInt_add, show (1 : Int32).toInt = 1 from rfl]
    exact Int.bmod_eq_of_le (by omega) (by omega)
  rw [Int32.lt_iff_toInt_lt, Int32.le_iff_toInt_le, e]
  omega
theorem v_fc_s {σ : s_D} {cnt k c : Nat} {x : Int32} : v_fc σ cnt x (k + 1) c = if x ≤ r_wt (u_best σ cnt c) then nI c else v_fc σ cnt x k (c + 1) := rfl
theorem v_fc_t {σ : s_D} {cnt k : Nat} {x : Int32} (h : k ≤ 100) : v_fc σ cnt x (101 - k) k = if x ≤ r_wt (u_best σ cnt k) then nI k else v_fc σ cnt x (101 - (k + 1)) (k + 1) := by
  have e : 101 - k = (101 - (k + 1)) + 1 := by omega
  rw [e]
  exact v_fc_s
theorem v_sp_y {σ : s_D} {cnt k : Nat} (h : r_wt (u_best σ cnt k) < r_wt (u_best σ cnt (k + 1))) : v_sp σ cnt (k + 1) = v_sp σ cnt k + 1 := if_pos h
theorem v_sp_n {σ : s_D} {cnt k : Nat} (h : ¬ r_wt (u_best σ cnt k) < r_wt (u_best σ cnt (k + 1))) : v_sp σ cnt (k + 1) = v_sp σ cnt k := if_neg h
theorem d_eq.fc {cnt : Nat} {σ τ : s_D} (q : d_eq cnt σ τ) {x : Int32} : ∀ k c, v_fc σ cnt x k c = v_fc τ cnt x k c
  | 0, _ => rfl
  | k + 1, c => by
    unfold v_fc
    rw [q.best, q.fc k (c + 1)]
theorem d_eq.sp {cnt : Nat} {σ τ : s_D} (q : d_eq cnt σ τ) : ∀ k, v_sp σ cnt k = v_sp τ cnt k
  | 0 => rfl
  | k + 1 => by
    unfold v_sp
    rw [q.best, q.best, q.sp k]

theorem c_M_capacityFor {h : s_H} {n m : Nat} {π : s_Pl} {t : Int32} (hR : m_R h m π t) (hn : m + 21 ≤ n) {cnt cp : Nat} (ok : d_ok π.1 cnt cp) (x : Int32) : s_Mt TX9_capacityFor 0 0 [.ref m, .int x] h n (s_rp n (fun v9 h1 => v9 = some (.int (v_fc π.1 cnt (if x < 0 then 0 else x) 101 0)) ∧ m_R h1 m π 0 ∧ s_off h h1 m (m + 21)) s_no) := by
  obtain ⟨I, w, sn, P, tx, rp, hP, -, hr1, hrr⟩ := hR
  have hM := hP.1
  have hT := hP.2.2.2.2.2.2.2
  have hm := hM.1
  have hw := hM.2
  have hoff : s_off h h m (m + 21) := s_off.rf
  have he : d_eq cnt (m_D w) π.1 := by
    obtain ⟨c9, p9, o9, e9⟩ := id hr1
    obtain rfl : c9 = cnt := o9.cn.symm.trans ok.cn
    exact e9
  have okm := he.sy.ok ok
  have hc := okm.1
  have h14 := ok.2.1
  have hcp := okm.2.2.1
  have h100 := ok.2.2.2.1
  have loop : ∀ (r k : Nat) (h' : s_H), k + r = 101 → v_fc (m_D w) cnt (if x < 0 then 0 else x) 101 0 = v_fc (m_D w) cnt (if x < 0 then 0 else x) (101 - k) k → m_pl h' m (upd I 0 0) w sn P tx rp → s_off h h' m (m + 21) → s_G TX9_capacityFor (s_rp n (fun v9 h1 => v9 = some (.int (v_fc π.1 cnt (if x < 0 then 0 else x) 101 0)) ∧ m_R h1 m π 0 ∧ s_off h h1 m (m + 21)) s_no) 7 (s_lvs [(0, .ref m), (1, .int x), (2, .int (nI k))]) [] h' n 0 0 := by
    intro r
    induction r with
    | zero =>
      intro k h' hk hi hP hoff
      have hM := hP.1
      have hT := hP.2.2.2.2.2.2.2
      have hm := hM.1
      have hw := hM.2
      refine g_iload_n dX9_capacityFor_7 rfl (by rfl) ?_
      refine g_bipush 100 dX9_capacityFor_8 (by rfl) ?_
      refine g_icmp_gt (tgt := 39) dX9_capacityFor_10 (by decide) (fun _ => ?_) (fun c_10 => absurd (show nI 100 < nI k from nI_lt (by omega) (by omega)) c_10)
      refine g_iconst (-1) dX9_capacityFor_39 (by rfl) ?_
      refine g_ireturn dX9_capacityFor_40 rfl ?_
      obtain rfl : k = 101 := by omega
      exact ⟨rfl, by rw [← he.fc, hi]; exact rfl, ⟨_, _, _, _, _, _, hP, rfl, hr1, hrr⟩, hoff⟩
    | succ r ih =>
      intro k h' hk hi hP hoff
      have hM := hP.1
      have hT := hP.2.2.2.2.2.2.2
      have hm := hM.1
      have hw := hM.2
      have hs : v_fc (m_D w) cnt (if x < 0 then 0 else x) (101 - k) k = _ := v_fc_t (by omega)
      refine g_iload_n dX9_capacityFor_7 rfl (by rfl) ?_
      refine g_bipush 100 dX9_capacityFor_8 (by rfl) ?_
      refine g_icmp_gt (tgt := 39) dX9_capacityFor_10 (by decide) (fun c_10 => absurd c_10 (show ¬ nI 100 < nI k from fun z => by rw [nI_lti (by omega) (by omega)] at z; omega)) (fun _ => ?_)
      refine g_aload_n dX9_capacityFor_13 rfl (by rfl) ?_
      refine g_iload_n dX9_capacityFor_14 rfl (by rfl) ?_
      refine g_callV_p (c_X9_planFor hM hn okm hT (c := k) (by omega)) dX9_capacityFor_15 (mX9_planFor) rfl lX9_108 iX9_planFor vX9_planFor (by decide) (by omega) (by exact hm) rfl rfl rfl rfl (Nat.le_of_ble_eq_true rfl) (fun v9 h9 z9 => ?_)
      obtain ⟨rfl, hT, qoff⟩ := z9
      have hM := hM.off qoff (by omega)
      have hP := hP.q qoff.r2 hM hT
      have hoff := hoff.trans (qoff.wide (a' := m) (b' := m + 21) (by omega) (by omega))
      have hm := hM.1
      have hw := hM.2
      refine g_iconst (-1) dX9_capacityFor_18 (by rfl) ?_
      refine g_icmp_eq (tgt := 33) dX9_capacityFor_19 (by decide) (fun c_19 => ?_) (fun c_19 => ?_)
      · have hpp : u_best (m_D w) cnt k = r_NP := (m_best okm (c := k) (by omega)).1.mp c_19
        refine g_iinc (nI (k + 1)) dX9_capacityFor_33 (by rfl) (nI_inc k) ?_
        refine g_goto (tgt := 7) dX9_capacityFor_36 (by decide) ?_
        have hnx : ¬ (if x < 0 then 0 else x) ≤ r_wt (u_best (m_D w) cnt k) := fun z => by
          obtain ⟨z1, z2⟩ := (m_fc okm (c := k) (by omega) x).mpr z
          first | exact z1 hpp | exact absurd z2 (Int32.not_le.mpr c_28)
        exact g_lv (ih (k + 1) _ (by omega) (hi.trans (hs.trans (if_neg hnx))) hP hoff) ⟨rfl, rfl, rfl, trivial⟩
      · have hnp : ¬ u_best (m_D w) cnt k = r_NP := fun z => c_19 ((m_best okm (c := k) (by omega)).1.mpr z)
        refine g_aload_n dX9_capacityFor_22 rfl (by rfl) ?_
        refine g_iload_n dX9_capacityFor_23 rfl (by rfl) ?_
        refine g_callV_p (c_X9_weightFor hM hn okm hT (c := k) (by omega)) dX9_capacityFor_24 (mX9_weightFor) rfl lX9_114 iX9_weightFor vX9_weightFor (by decide) (by omega) (by exact hm) rfl rfl rfl rfl (Nat.le_of_ble_eq_true rfl) (fun v9 h9 z9 => ?_)
        obtain ⟨rfl, hT, qoff⟩ := z9
        have hM := hM.off qoff (by omega)
        have hP := hP.q qoff.r2 hM hT
        have hoff := hoff.trans (qoff.wide (a' := m) (b' := m + 21) (by omega) (by omega))
        have hm := hM.1
        have hw := hM.2
        refine g_iload_n dX9_capacityFor_27 rfl (by rfl) ?_
        refine g_icmp_lt (tgt := 33) dX9_capacityFor_28 (by decide) (fun c_28 => ?_) (fun c_28 => ?_)
        · refine g_iinc (nI (k + 1)) dX9_capacityFor_33 (by rfl) (nI_inc k) ?_
          refine g_goto (tgt := 7) dX9_capacityFor_36 (by decide) ?_
          have hnx : ¬ (if x < 0 then 0 else x) ≤ r_wt (u_best (m_D w) cnt k) := fun z => by
            obtain ⟨z1, z2⟩ := (m_fc okm (c := k) (by omega) x).mpr z
            first | exact z1 hpp | exact absurd z2 (Int32.not_le.mpr c_28)
          exact g_lv (ih (k + 1) _ (by omega) (hi.trans (hs.trans (if_neg hnx))) hP hoff) ⟨rfl, rfl, rfl, trivial⟩
        · have hy : (if x < 0 then 0 else x) ≤ r_wt (u_best (m_D w) cnt k) := (m_fc okm (by omega) x).mp ⟨hnp, Int32.not_lt.mp c_28⟩
          refine g_iload_n dX9_capacityFor_31 rfl (by rfl) ?_
          refine g_ireturn dX9_capacityFor_32 rfl ?_
          exact ⟨rfl, by rw [← he.fc, hi.trans (hs.trans (if_pos hy))], ⟨_, _, _, _, _, _, hP, rfl, hr1, hrr⟩, hoff⟩
  refine s_Mt_of rfl (by decide) (by exact Nat.le_of_ble_eq_true rfl) ?_
  refine g_aload_n dX9_capacityFor_0 rfl (by rfl) ?_
  refine g_iconst 0 dX9_capacityFor_1 (by rfl) ?_
  refine g_putf' dX9_capacityFor_2 pX9_59 (by exact hm) (by omega) (by exact Nat.le_of_ble_eq_true rfl) (by rfl) (by rfl) (fun h31 e31 => ?_)
  first | have hm_31 := s_up_off e31 (by omega) hm | have hm_31 := s_up_at e31
  first | have hw_31 := s_up_off e31 (by omega) hw | have hw_31 := s_up_at e31
  have hM := hM.th e31
  have qoff : s_off _ h31 m (m + 1) := s_off.rf.up e31 (by omega)
  have hT := hT.off qoff (by omega)
  have hP := hP.q (qoff.wide (a' := m) (b' := m + 2) (by omega) (by omega)).l2 hM hT
  have hoff := hoff.trans (qoff.wide (a' := m) (b' := m + 21) (by omega) (by omega))
  have hm := hM.1
  have hw := hM.2
  refine g_iconst 0 dX9_capacityFor_5 (by rfl) ?_
  refine g_istore_n dX9_capacityFor_6 rfl (by decide) ?_
  exact g_lv (loop 101 0 _ (by omega) rfl hP hoff) ⟨rfl, rfl, rfl, trivial⟩

theorem c_M_steps {h : s_H} {n m : Nat} {π : s_Pl} {t : Int32} (hR : m_R h m π t) (hn : m + 21 ≤ n) {cnt cp : Nat} (ok : d_ok π.1 cnt cp) : s_Mt TX9_steps 0 0 [.ref m] h n (s_rp n (fun v9 h1 => v9 = some (.int (nI (v_sp π.1 cnt 100))) ∧ m_R h1 m π 0 ∧ s_off h h1 m (m + 21)) s_no) := by
  obtain ⟨I, w, sn, P, tx, rp, hP, -, hr1, hrr⟩ := hR
  have hM := hP.1
  have hT := hP.2.2.2.2.2.2.2
  have hm := hM.1
  have hw := hM.2
  have hoff : s_off h h m (m + 21) := s_off.rf
  have he : d_eq cnt (m_D w) π.1 := by
    obtain ⟨c9, p9, o9, e9⟩ := id hr1
    obtain rfl : c9 = cnt := o9.cn.symm.trans ok.cn
    exact e9
  have okm := he.sy.ok ok
  have hc := okm.1
  have h14 := ok.2.1
  have hcp := okm.2.2.1
  have h100 := ok.2.2.2.1
  have loop : ∀ (r k : Nat) (h' : s_H), k + r = 100 → m_pl h' m (upd I 0 0) w sn P tx rp → s_off h h' m (m + 21) → s_G TX9_steps (s_rp n (fun v9 h1 => v9 = some (.int (nI (v_sp π.1 cnt 100))) ∧ m_R h1 m π 0 ∧ s_off h h1 m (m + 21)) s_no) 9 (s_lvs [(0, .ref m), (1, .int (nI (v_sp (m_D w) cnt k))), (2, .int (nI (k + 1)))]) [] h' n 0 0 := by
    intro r
    induction r with
    | zero =>
      intro k h' hk hP hoff
      have hM := hP.1
      have hT := hP.2.2.2.2.2.2.2
      have hm := hM.1
      have hw := hM.2
      refine g_iload_n dX9_steps_9 rfl (by rfl) ?_
      refine g_bipush 100 dX9_steps_10 (by rfl) ?_
      refine g_icmp_gt (tgt := 44) dX9_steps_12 (by decide) (fun _ => ?_) (fun c_12 => absurd (show nI 100 < nI (k + 1) from nI_lt (by omega) (by omega)) c_12)
      refine g_iload_n dX9_steps_44 rfl (by rfl) ?_
      refine g_ireturn dX9_steps_45 rfl ?_
      obtain rfl : k = 100 := by omega
      exact ⟨rfl, by rw [he.sp], ⟨_, _, _, _, _, _, hP, rfl, hr1, hrr⟩, hoff⟩
    | succ r ih =>
      intro k h' hk hP hoff
      have hM := hP.1
      have hT := hP.2.2.2.2.2.2.2
      have hm := hM.1
      have hw := hM.2
      refine g_iload_n dX9_steps_9 rfl (by rfl) ?_
      refine g_bipush 100 dX9_steps_10 (by rfl) ?_
      refine g_icmp_gt (tgt := 44) dX9_steps_12 (by decide) (fun c_12 => absurd c_12 (show ¬ nI 100 < nI (k + 1) from fun z => by rw [nI_lti (by omega) (by omega)] at z; omega)) (fun _ => ?_)
      refine g_iload_n dX9_steps_15 rfl (by rfl) ?_
      refine g_aload_n dX9_steps_16 rfl (by rfl) ?_
      refine g_iload_n dX9_steps_17 rfl (by rfl) ?_
      refine g_callV_p (c_X9_weightFor hM hn okm hT (c := k + 1) (by omega)) dX9_steps_18 (mX9_weightFor) rfl lX9_114 iX9_weightFor vX9_weightFor (by decide) (by omega) (by exact hm) rfl rfl rfl rfl (Nat.le_of_ble_eq_true rfl) (fun v9 h9 z9 => ?_)
      obtain ⟨rfl, hT, qoff⟩ := z9
      have hM := hM.off qoff (by omega)
      have hP := hP.q qoff.r2 hM hT
      have hoff := hoff.trans (qoff.wide (a' := m) (b' := m + 21) (by omega) (by omega))
      have hm := hM.1
      have hw := hM.2
      refine g_aload_n dX9_steps_21 rfl (by rfl) ?_
      refine g_iload_n dX9_steps_22 rfl (by rfl) ?_
      refine g_iconst 1 dX9_steps_23 (by rfl) ?_
      refine g_isub dX9_steps_24 ?_
      rw [nI_pred]
      refine g_callV_p (c_X9_weightFor hM hn okm hT (c := k) (by omega)) dX9_steps_25 (mX9_weightFor) rfl lX9_114 iX9_weightFor vX9_weightFor (by decide) (by omega) (by exact hm) rfl rfl rfl rfl (Nat.le_of_ble_eq_true rfl) (fun v9 h9 z9 => ?_)
      obtain ⟨rfl, hT, qoff⟩ := z9
      have hM := hM.off qoff (by omega)
      have hP := hP.q qoff.r2 hM hT
      have hoff := hoff.trans (qoff.wide (a' := m) (b' := m + 21) (by omega) (by omega))
      have hm := hM.1
      have hw := hM.2
      refine g_icmp_le (tgt := 35) dX9_steps_28 (by decide) (fun c_28 => ?_) (fun c_28 => ?_)
      · have hle : ¬ r_wt (u_best (m_D w) cnt k) < r_wt (u_best (m_D w) cnt (k + 1)) := Int32.not_lt.mpr c_28
        refine g_iconst 0 dX9_steps_35 (by rfl) ?_
        refine g_iadd dX9_steps_36 ?_
        refine g_istore_n dX9_steps_37 rfl (by decide) ?_
        refine g_iinc (nI (k + 2)) dX9_steps_38 (by rfl) (nI_inc (k + 1)) ?_
        refine g_goto (tgt := 9) dX9_steps_41 (by decide) ?_
        first
        | (have e := v_sp_y hlt
           exact g_lv (ih (k + 1) _ (by omega) hP hoff) ⟨rfl, by rw [e, ← nI_1 (v_sp (m_D w) cnt k)]; exact rfl, rfl, trivial⟩)
        | (have e := v_sp_n hle
           exact g_lv (ih (k + 1) _ (by omega) hP hoff) ⟨rfl, by rw [e]; show some _ = some _; rw [Int32.add_zero], rfl, trivial⟩)
      · have hlt : r_wt (u_best (m_D w) cnt k) < r_wt (u_best (m_D w) cnt (k + 1)) := Int32.not_le.mp c_28
        refine g_iconst 1 dX9_steps_31 (by rfl) ?_
        refine g_goto (tgt := 36) dX9_steps_32 (by decide) ?_
        refine g_iadd dX9_steps_36 ?_
        refine g_istore_n dX9_steps_37 rfl (by decide) ?_
        refine g_iinc (nI (k + 2)) dX9_steps_38 (by rfl) (nI_inc (k + 1)) ?_
        refine g_goto (tgt := 9) dX9_steps_41 (by decide) ?_
        first
        | (have e := v_sp_y hlt
           exact g_lv (ih (k + 1) _ (by omega) hP hoff) ⟨rfl, by rw [e, ← nI_1 (v_sp (m_D w) cnt k)]; exact rfl, rfl, trivial⟩)
        | (have e := v_sp_n hle
           exact g_lv (ih (k + 1) _ (by omega) hP hoff) ⟨rfl, by rw [e]; show some _ = some _; rw [Int32.add_zero], rfl, trivial⟩)
  refine s_Mt_of rfl (by decide) (by exact Nat.le_of_ble_eq_true rfl) ?_
  refine g_aload_n dX9_steps_0 rfl (by rfl) ?_
  refine g_iconst 0 dX9_steps_1 (by rfl) ?_
  refine g_putf' dX9_steps_2 pX9_59 (by exact hm) (by omega) (by exact Nat.le_of_ble_eq_true rfl) (by rfl) (by rfl) (fun h31 e31 => ?_)
  first | have hm_31 := s_up_off e31 (by omega) hm | have hm_31 := s_up_at e31
  first | have hw_31 := s_up_off e31 (by omega) hw | have hw_31 := s_up_at e31
  have hM := hM.th e31
  have qoff : s_off _ h31 m (m + 1) := s_off.rf.up e31 (by omega)
  have hT := hT.off qoff (by omega)
  have hP := hP.q (qoff.wide (a' := m) (b' := m + 2) (by omega) (by omega)).l2 hM hT
  have hoff := hoff.trans (qoff.wide (a' := m) (b' := m + 21) (by omega) (by omega))
  have hm := hM.1
  have hw := hM.2
  refine g_iconst 0 dX9_steps_5 (by rfl) ?_
  refine g_istore_n dX9_steps_6 rfl (by decide) ?_
  refine g_iconst 1 dX9_steps_7 (by rfl) ?_
  refine g_istore_n dX9_steps_8 rfl (by decide) ?_
  exact g_lv (loop 100 0 _ (by omega) hP hoff) ⟨rfl, rfl, rfl, trivial⟩

theorem c_M_nextStep {h : s_H} {n m : Nat} {π : s_Pl} {t : Int32} (hR : m_R h m π t) (hn : m + 21 ≤ n) {cnt cp : Nat} (ok : d_ok π.1 cnt cp) : s_Mt TX9_nextStep 0 0 [.ref m] h n (s_rp n (fun v9 h1 => v9 = some (.int (v_fc π.1 cnt (r_wt (u_best π.1 cnt cp) + 1) (100 - cp) (cp + 1))) ∧ m_R h1 m π 0 ∧ s_off h h1 m (m + 21)) s_no) := by
  obtain ⟨I, w, sn, P, tx, rp, hP, -, hr1, hrr⟩ := hR
  have hM := hP.1
  have hT := hP.2.2.2.2.2.2.2
  have hm := hM.1
  have hw := hM.2
  have hoff : s_off h h m (m + 21) := s_off.rf
  have he : d_eq cnt (m_D w) π.1 := by
    obtain ⟨c9, p9, o9, e9⟩ := id hr1
    obtain rfl : c9 = cnt := o9.cn.symm.trans ok.cn
    exact e9
  have okm := he.sy.ok ok
  have hc := okm.1
  have h14 := ok.2.1
  have hcp := okm.2.2.1
  have h100 := ok.2.2.2.1
  have loop : ∀ (r k : Nat) (h' : s_H), k + r = 101 → v_fc (m_D w) cnt ((r_wt (u_best (m_D w) cnt cp)) + 1) (100 - cp) (cp + 1) = v_fc (m_D w) cnt ((r_wt (u_best (m_D w) cnt cp)) + 1) (101 - k) k → m_pl h' m (upd I 0 0) w sn P tx rp → s_off h h' m (m + 21) → s_G TX9_nextStep (s_rp n (fun v9 h1 => v9 = some (.int (v_fc π.1 cnt (r_wt (u_best π.1 cnt cp) + 1) (100 - cp) (cp + 1))) ∧ m_R h1 m π 0 ∧ s_off h h1 m (m + 21)) s_no) 19 (s_lvs [(0, .ref m), (1, .int (r_wt (u_best (m_D w) cnt cp))), (2, .int (nI k))]) [] h' n 0 0 := by
    intro r
    induction r with
    | zero =>
      intro k h' hk hi hP hoff
      have hM := hP.1
      have hT := hP.2.2.2.2.2.2.2
      have hm := hM.1
      have hw := hM.2
      refine g_iload_n dX9_nextStep_19 rfl (by rfl) ?_
      refine g_bipush 100 dX9_nextStep_20 (by rfl) ?_
      refine g_icmp_gt (tgt := 42) dX9_nextStep_22 (by decide) (fun _ => ?_) (fun c_22 => absurd (show nI 100 < nI k from nI_lt (by omega) (by omega)) c_22)
      refine g_iconst (-1) dX9_nextStep_42 (by rfl) ?_
      refine g_ireturn dX9_nextStep_43 rfl ?_
      obtain rfl : k = 101 := by omega
      exact ⟨rfl, by rw [← he.fc, ← he.best, hi]; exact rfl, ⟨_, _, _, _, _, _, hP, rfl, hr1, hrr⟩, hoff⟩
    | succ r ih =>
      intro k h' hk hi hP hoff
      have hM := hP.1
      have hT := hP.2.2.2.2.2.2.2
      have hm := hM.1
      have hw := hM.2
      have hs : v_fc (m_D w) cnt ((r_wt (u_best (m_D w) cnt cp)) + 1) (101 - k) k = _ := v_fc_t (by omega)
      refine g_iload_n dX9_nextStep_19 rfl (by rfl) ?_
      refine g_bipush 100 dX9_nextStep_20 (by rfl) ?_
      refine g_icmp_gt (tgt := 42) dX9_nextStep_22 (by decide) (fun c_22 => absurd c_22 (show ¬ nI 100 < nI k from fun z => by rw [nI_lti (by omega) (by omega)] at z; omega)) (fun _ => ?_)
      refine g_aload_n dX9_nextStep_25 rfl (by rfl) ?_
      refine g_iload_n dX9_nextStep_26 rfl (by rfl) ?_
      refine g_callV_p (c_X9_weightFor hM hn okm hT (c := k) (by omega)) dX9_nextStep_27 (mX9_weightFor) rfl lX9_114 iX9_weightFor vX9_weightFor (by decide) (by omega) (by exact hm) rfl rfl rfl rfl (Nat.le_of_ble_eq_true rfl) (fun v9 h9 z9 => ?_)
      obtain ⟨rfl, hT, qoff⟩ := z9
      have hM := hM.off qoff (by omega)
      have hP := hP.q qoff.r2 hM hT
      have hoff := hoff.trans (qoff.wide (a' := m) (b' := m + 21) (by omega) (by omega))
      have hm := hM.1
      have hw := hM.2
      refine g_iload_n dX9_nextStep_30 rfl (by rfl) ?_
      refine g_icmp_le (tgt := 36) dX9_nextStep_31 (by decide) (fun c_31 => ?_) (fun c_31 => ?_)
      · have hn2 : ¬ (r_wt (u_best (m_D w) cnt cp)) + 1 ≤ r_wt (u_best (m_D w) cnt k) := fun z => absurd ((m_wt_s okm h100 (by omega)).mpr z) (Int32.not_lt.mpr c_31)
        refine g_iinc (nI (k + 1)) dX9_nextStep_36 (by rfl) (nI_inc k) ?_
        refine g_goto (tgt := 19) dX9_nextStep_39 (by decide) ?_
        exact g_lv (ih (k + 1) _ (by omega) (hi.trans (hs.trans (if_neg hn2))) hP hoff) ⟨rfl, rfl, rfl, trivial⟩
      · have hy : (r_wt (u_best (m_D w) cnt cp)) + 1 ≤ r_wt (u_best (m_D w) cnt k) := (m_wt_s okm h100 (by omega)).mp (Int32.not_le.mp c_31)
        refine g_iload_n dX9_nextStep_34 rfl (by rfl) ?_
        refine g_ireturn dX9_nextStep_35 rfl ?_
        exact ⟨rfl, by rw [← he.fc, ← he.best, hi.trans (hs.trans (if_pos hy))], ⟨_, _, _, _, _, _, hP, rfl, hr1, hrr⟩, hoff⟩
  refine s_Mt_of rfl (by decide) (by exact Nat.le_of_ble_eq_true rfl) ?_
  refine g_aload_n dX9_nextStep_0 rfl (by rfl) ?_
  refine g_iconst 0 dX9_nextStep_1 (by rfl) ?_
  refine g_putf' dX9_nextStep_2 pX9_59 (by exact hm) (by omega) (by exact Nat.le_of_ble_eq_true rfl) (by rfl) (by rfl) (fun h31 e31 => ?_)
  first | have hm_31 := s_up_off e31 (by omega) hm | have hm_31 := s_up_at e31
  first | have hw_31 := s_up_off e31 (by omega) hw | have hw_31 := s_up_at e31
  have hM := hM.th e31
  have qoff : s_off _ h31 m (m + 1) := s_off.rf.up e31 (by omega)
  have hT := hT.off qoff (by omega)
  have hP := hP.q (qoff.wide (a' := m) (b' := m + 2) (by omega) (by omega)).l2 hM hT
  have hoff := hoff.trans (qoff.wide (a' := m) (b' := m + 21) (by omega) (by omega))
  have hm := hM.1
  have hw := hM.2
  refine g_aload_n dX9_nextStep_5 rfl (by rfl) ?_
  refine g_callV_p (c_X9_bestWeightNow hM hn okm hT) dX9_nextStep_6 (mX9_bestWeightNow) rfl lX9_280 iX9_bestWeightNow vX9_bestWeightNow (by decide) (by omega) (by exact hm) rfl rfl rfl rfl (Nat.le_of_ble_eq_true rfl) (fun v9 h9 z9 => ?_)
  obtain ⟨rfl, hT, qoff⟩ := z9
  have hM := hM.off qoff (by omega)
  have hP := hP.q qoff.r2 hM hT
  have hoff := hoff.trans (qoff.wide (a' := m) (b' := m + 21) (by omega) (by omega))
  have hm := hM.1
  have hw := hM.2
  refine g_istore_n dX9_nextStep_9 rfl (by decide) ?_
  refine g_aload_n dX9_nextStep_10 rfl (by rfl) ?_
  refine g_getf dX9_nextStep_11 fX9_9 (by exact hm) (by omega) (by rfl) ?_
  refine g_iconst 0 dX9_nextStep_14 (by rfl) ?_
  refine g_iald dX9_nextStep_15 (by exact hw) (by omega) (show (0 : Int32) = nI 0 from rfl) (by decide) (by omega) ?_
  rw [show w 0 = nI cp from hcp]
  refine g_iconst 1 dX9_nextStep_16 (by rfl) ?_
  refine g_iadd dX9_nextStep_17 ?_
  rw [nI_1]
  refine g_istore_n dX9_nextStep_18 rfl (by decide) ?_
  exact g_lv (loop (100 - cp) (cp + 1) _ (by omega) (by rw [show 101 - (cp + 1) = 100 - cp by omega]) hP hoff) ⟨rfl, rfl, rfl, trivial⟩

theorem k_B {σ : s_D} {cnt cp i c : Nat} (ok : d_ok σ cnt cp) (hi : i ≤ cnt) (hc : c ≤ 100) : r_wt (u_tp σ i c) = nI (ka_B (k_f σ) (k_w σ) (k_s σ) i c) ∧ ka_B (k_f σ) (k_w σ) (k_s σ) i c ≤ 9990 * i := by
  have h14 := ok.2.1
  obtain ⟨b1, b2⟩ := ka_B_tp (fr := k_f σ) (w := k_w σ) (s := k_s σ) i (by omega) c (by omega)
  obtain ⟨t1, t2, t3⟩ := k_t_ok σ i c
  have hb := k_psb ok (t := k_t σ i c) i hi
  have hM := ka_M14 (t := k_t σ i c) (n := i) (by omega)
  have hp : ka_p2 i ≤ 16384 := by
    have := ka_p2_le (show i ≤ 14 by omega)
    have e : ka_p2 14 = 16384 := by decide
    omega
  have e : ka_sm (k_w σ) (k_t σ i c) i = ka_B (k_f σ) (k_w σ) (k_s σ) i c := by
    unfold ka_rk at t3
    omega
  rw [(kb_wt ((k_tp ok i hi c).trans t3) (by omega) (by omega) hM).1, e]
  exact ⟨rfl, by omega⟩
/-- the planner's ways are the sets that weigh most -/
theorem m_ow {σ : s_D} {cnt cp rm : Nat} {τ : s_Tb} (ok : d_ok σ cnt cp) (h0 : ∀ c, c ≤ 100 → τ.1 0 c = 0) (hrm : rm ≤ 100) : ∀ i, i ≤ cnt → ∀ x, x ≤ rm → t_ow (t_build σ 100 τ cnt) σ rm (u_nf σ i) x = nI (ka_y (k_f σ) (k_w σ) (k_s σ) i x)
  | 0, _, x, hx => by
    show t_one _ (rm + 1) x = _
    unfold t_one
    rw [if_pos (by omega)]
    rfl
  | i + 1, hi, x, hx => by
    have h14 := ok.2.1
    have ih := m_ow ok h0 hrm i (by omega)
    obtain ⟨b1, -, -, b4, b5⟩ := u_build (σ := σ) (τ := τ) h0 cnt
    by_cases hf : σ.1 3 i = 0
    · have e1 : u_nf σ (i + 1) = u_nf σ i + 1 := by simp only [u_nf, if_pos hf]
      obtain ⟨s1, s2, s3, w1, w2⟩ := k_it ok (show i < cnt by omega)
      have hit := b5 i (by omega) hf
      have ey : ka_y (k_f σ) (k_w σ) (k_s σ) (i + 1) x = (if ka_B (k_f σ) (k_w σ) (k_s σ) i x = ka_B (k_f σ) (k_w σ) (k_s σ) (i + 1) x then ka_y (k_f σ) (k_w σ) (k_s σ) i x else 0) + (if k_s σ i ≤ x ∧ ka_B (k_f σ) (k_w σ) (k_s σ) i (x - k_s σ i) + k_w σ i = ka_B (k_f σ) (k_w σ) (k_s σ) (i + 1) x then ka_y (k_f σ) (k_w σ) (k_s σ) i (x - k_s σ i) else 0) := if_pos (decide_eq_true hf)
      rw [e1, ey]
      show t_wq _ _ _ _ _ _ _ _ = _
      unfold t_wq
      rw [if_pos ⟨Nat.zero_le _, hx⟩, hit, nI_clamp (by omega)]
      show t_nw _ _ _ (k_s σ i) _ x = _
      unfold t_nw
      have r0 := b4 i (by omega) x (by omega)
      have r1 := b4 (i + 1) hi x (by omega)
      have rs := b4 i (by omega) (x - k_s σ i) (by omega)
      rw [e1] at r1
      rw [r0, r1, rs, ih x hx, ih (x - k_s σ i) (by omega), w1]
      obtain ⟨c1, d1⟩ := k_B ok (i := i) (c := x) (by omega) (by omega)
      obtain ⟨c2, d2⟩ := k_B ok (i := i + 1) (c := x) hi (by omega)
      obtain ⟨c3, d3⟩ := k_B ok (i := i) (c := x - k_s σ i) (by omega) (by omega)
      rw [c1, c2, c3, nI_add]
      have q1 : (nI (ka_B (k_f σ) (k_w σ) (k_s σ) i (x - k_s σ i) + k_w σ i) = nI (ka_B (k_f σ) (k_w σ) (k_s σ) (i + 1) x)) ↔ (ka_B (k_f σ) (k_w σ) (k_s σ) i (x - k_s σ i) + k_w σ i = ka_B (k_f σ) (k_w σ) (k_s σ) (i + 1) x) := nI_eqi (by omega) (by omega)
      have q2 : (nI (ka_B (k_f σ) (k_w σ) (k_s σ) i x) = nI (ka_B (k_f σ) (k_w σ) (k_s σ) (i + 1) x)) ↔ (ka_B (k_f σ) (k_w σ) (k_s σ) i x = ka_B (k_f σ) (k_w σ) (k_s σ) (i + 1) x) := nI_eqi (by omega) (by omega)
      by_cases z1 : k_s σ i ≤ x ∧ ka_B (k_f σ) (k_w σ) (k_s σ) i (x - k_s σ i) + k_w σ i = ka_B (k_f σ) (k_w σ) (k_s σ) (i + 1) x
      · rw [if_pos z1, if_pos (⟨z1.1, q1.mpr z1.2⟩ : k_s σ i ≤ x ∧ nI (ka_B (k_f σ) (k_w σ) (k_s σ) i (x - k_s σ i) + k_w σ i) = nI (ka_B (k_f σ) (k_w σ) (k_s σ) (i + 1) x))]
        by_cases z2 : ka_B (k_f σ) (k_w σ) (k_s σ) i x = ka_B (k_f σ) (k_w σ) (k_s σ) (i + 1) x
        · rw [if_pos z2, if_pos (q2.mpr z2), nI_add]
        · rw [if_neg z2, if_neg (fun z => z2 (q2.mp z))]
          exact nI_add 0 _
      · rw [if_neg z1, if_neg (fun z => z1 ⟨z.1, q1.mp z.2⟩ : ¬ (k_s σ i ≤ x ∧ nI (ka_B (k_f σ) (k_w σ) (k_s σ) i (x - k_s σ i) + k_w σ i) = nI (ka_B (k_f σ) (k_w σ) (k_s σ) (i + 1) x))), Nat.add_zero]
        by_cases z2 : ka_B (k_f σ) (k_w σ) (k_s σ) i x = ka_B (k_f σ) (k_w σ) (k_s σ) (i + 1) x
        · rw [if_pos z2, if_pos (q2.mpr z2)]
          rfl
        · rw [if_neg z2, if_neg (fun z => z2 (q2.mp z))]
          rfl
    · have e1 : u_nf σ (i + 1) = u_nf σ i := by simp only [u_nf, if_neg hf]
      have ey : ka_y (k_f σ) (k_w σ) (k_s σ) (i + 1) x = ka_y (k_f σ) (k_w σ) (k_s σ) i x := if_neg (fun z => hf (of_decide_eq_true z))
      rw [e1, ey]
      exact ih x hx
/-- how many best plans -/
def v_op (σ : s_D) (cnt : Nat) : Nat := ka_y (k_f σ) (k_w σ) (k_s σ) cnt (d_room σ cnt).toNatClampNeg
theorem d_room_100 {σ : s_D} {cnt cp : Nat} (ok : d_ok σ cnt cp) (hr : ¬ d_room σ cnt < 0) : (d_room σ cnt).toNatClampNeg ≤ 100 := by
  rw [d_room_eq ok] at hr ⊢
  exact Nat.le_trans (u_hz ok ok.2.2.2.1 hr) ok.2.2.2.1
theorem m_cp_ow {σ : s_D} {cnt cp rm r : Nat} {τ : s_Tb} (ok : d_ok σ cnt cp) (h0 : ∀ c, c ≤ 100 → τ.1 0 c = 0) (hrm : rm ≤ 100) (hr : r = u_nf σ cnt) : t_ow (t_build σ 100 τ cnt) σ rm r rm = nI (ka_y (k_f σ) (k_w σ) (k_s σ) cnt rm) := by
  subst hr
  exact m_ow ok h0 hrm cnt (Nat.le_refl _) rm (Nat.le_refl _)
theorem m_cp_op {σ : s_D} {cnt cp : Nat} {τ : s_Tb} (ok : d_ok σ cnt cp) (h0 : ∀ c, c ≤ 100 → τ.1 0 c = 0) (hr : ¬ d_room σ cnt < 0) : t_ow (t_build σ 100 τ cnt) σ (d_room σ cnt).toNatClampNeg (t_build σ 100 τ cnt).2.2.2.1 (d_room σ cnt).toNatClampNeg = nI (v_op σ cnt) :=
  m_cp_ow ok h0 (d_room_100 ok hr) (u_build (σ := σ) h0 cnt).1
theorem ka_B_eq {fr fr' : Nat → Bool} {w w' s s' : Nat → Nat} : ∀ n, (∀ j, j < n → fr j = fr' j ∧ w j = w' j ∧ s j = s' j) → ∀ c, ka_B fr w s n c = ka_B fr' w' s' n c
  | 0, _, _ => rfl
  | n + 1, h, c => by
    obtain ⟨h1, h2, h3⟩ := h n (by omega)
    have ih := ka_B_eq n (fun j hj => h j (by omega))
    show (if fr n = true ∧ s n ≤ c ∧ ka_B fr w s n c < ka_B fr w s n (c - s n) + w n then ka_B fr w s n (c - s n) + w n else ka_B fr w s n c) = (if fr' n = true ∧ s' n ≤ c ∧ ka_B fr' w' s' n c < ka_B fr' w' s' n (c - s' n) + w' n then ka_B fr' w' s' n (c - s' n) + w' n else ka_B fr' w' s' n c)
    rw [ih, ih, h1, h2, h3]
theorem ka_y_s {fr : Nat → Bool} {w s : Nat → Nat} (n c : Nat) : ka_y fr w s (n + 1) c = if fr n = true then (if ka_B fr w s n c = ka_B fr w s (n + 1) c then ka_y fr w s n c else 0) + (if s n ≤ c ∧ ka_B fr w s n (c - s n) + w n = ka_B fr w s (n + 1) c then ka_y fr w s n (c - s n) else 0) else ka_y fr w s n c := rfl
theorem ka_y_eq {fr fr' : Nat → Bool} {w w' s s' : Nat → Nat} : ∀ n, (∀ j, j < n → fr j = fr' j ∧ w j = w' j ∧ s j = s' j) → ∀ c, ka_y fr w s n c = ka_y fr' w' s' n c
  | 0, _, _ => rfl
  | n + 1, h, c => by
    obtain ⟨h1, h2, h3⟩ := h n (by omega)
    have ih := ka_y_eq n (fun j hj => h j (by omega))
    have hB := ka_B_eq n (fun j hj => h j (by omega))
    have hB1 := ka_B_eq (n + 1) h
    rw [ka_y_s, ka_y_s, ih, ih, hB, hB, hB1, h1, h2, h3]
theorem d_eq.op {cnt cp : Nat} {σ τ : s_D} (q : d_eq cnt σ τ) (ok : d_ok σ cnt cp) : v_op σ cnt = v_op τ cnt := by
  have h := ka_y_eq (fr := k_f σ) (fr' := k_f τ) (w := k_w σ) (w' := k_w τ) (s := k_s σ) (s' := k_s τ) cnt (fun j hj => ⟨by unfold k_f; rw [q.2 3 (by omega) j hj], by unfold k_w; rw [q.wt hj], by unfold k_s; rw [q.2 0 (by omega) j hj]⟩) (d_room σ cnt).toNatClampNeg
  rw [q.room] at h
  unfold v_op
  rw [q.room]
  exact h

theorem c_M_optimalPlans {h : s_H} {n m : Nat} {π : s_Pl} {t : Int32} (hR : m_R h m π t) (hn : m + 21 ≤ n) {cnt cp : Nat} (ok : d_ok π.1 cnt cp) : s_Mt TX9_optimalPlans 0 0 [.ref m] h n (s_rp n (fun v9 h1 => v9 = some (.int (if d_room π.1 cnt < 0 then 0 else nI (v_op π.1 cnt))) ∧ m_R h1 m π 0 ∧ s_off h h1 m (m + 21)) s_no) := by
  obtain ⟨I, w, sn, P, tx, rp, hP, -, hr1, hrr⟩ := hR
  have hM := hP.1
  have hT := hP.2.2.2.2.2.2.2
  have hm := hM.1
  have hw := hM.2
  have hoff : s_off h h m (m + 21) := s_off.rf
  have he : d_eq cnt (m_D w) π.1 := by
    obtain ⟨c9, p9, o9, e9⟩ := id hr1
    obtain rfl : c9 = cnt := o9.cn.symm.trans ok.cn
    exact e9
  have okm := he.sy.ok ok
  have hc := okm.1
  have h14 := ok.2.1
  have hcp := okm.2.2.1
  have h100 := ok.2.2.2.1
  refine s_Mt_of rfl (by decide) (by exact Nat.le_of_ble_eq_true rfl) ?_
  refine g_aload_n dX9_optimalPlans_0 rfl (by rfl) ?_
  refine g_iconst 0 dX9_optimalPlans_1 (by rfl) ?_
  refine g_putf' dX9_optimalPlans_2 pX9_59 (by exact hm) (by omega) (by exact Nat.le_of_ble_eq_true rfl) (by rfl) (by rfl) (fun h31 e31 => ?_)
  first | have hm_31 := s_up_off e31 (by omega) hm | have hm_31 := s_up_at e31
  first | have hw_31 := s_up_off e31 (by omega) hw | have hw_31 := s_up_at e31
  have hM := hM.th e31
  have qoff : s_off _ h31 m (m + 1) := s_off.rf.up e31 (by omega)
  have hT := hT.off qoff (by omega)
  have hP := hP.q (qoff.wide (a' := m) (b' := m + 2) (by omega) (by omega)).l2 hM hT
  have hoff := hoff.trans (qoff.wide (a' := m) (b' := m + 21) (by omega) (by omega))
  have hm := hM.1
  have hw := hM.2
  refine g_aload_n dX9_optimalPlans_5 rfl (by rfl) ?_
  refine g_aload_n dX9_optimalPlans_6 rfl (by rfl) ?_
  refine g_getf dX9_optimalPlans_7 fX9_9 (by exact hm) (by omega) (by rfl) ?_
  refine g_iconst 0 dX9_optimalPlans_10 (by rfl) ?_
  refine g_iald dX9_optimalPlans_11 (by exact hw) (by omega) (show (0 : Int32) = nI 0 from rfl) (by decide) (by omega) ?_
  refine g_callV_e (c_X9_roomFor hM hn hc h14 (w 0)) dX9_optimalPlans_12 (mX9_roomFor) rfl lX9_99 iX9_roomFor vX9_roomFor (by decide) (by omega) (by exact hm) rfl rfl rfl rfl (Nat.le_of_ble_eq_true rfl) ?_
  change s_G _ _ _ _ [.int (d_room (m_D w) cnt)] _ _ _ _
  refine g_istore_n dX9_optimalPlans_15 rfl (by decide) ?_
  refine g_iload_n dX9_optimalPlans_16 rfl (by rfl) ?_
  refine g_if_ge (tgt := 22) dX9_optimalPlans_17 (by decide) (fun c_17 => ?_) (fun c_17 => ?_)
  · have hr : ¬ d_room (m_D w) cnt < 0 := Int32.not_lt.mpr c_17
    obtain ⟨rm, hrm9, hrm⟩ := nI_of hr
    have hrm100 : rm ≤ 100 := by
      have h1 := d_room_eq okm
      have h2 := hr
      rw [h1] at h2
      have h3 := u_hz okm h100 h2
      rw [← h1, hrm, nI_clamp hrm9] at h3
      omega
    refine g_aload_n dX9_optimalPlans_22 rfl (by rfl) ?_
    refine g_bipush (nI 14) dX9_optimalPlans_23 (by rfl) ?_
    refine g_callV_p (c_X9_fillTable hM hn okm hT (R := 14) (by omega)) dX9_optimalPlans_25 (mX9_fillTable) rfl lX9_102 iX9_fillTable vX9_fillTable (by decide) (by omega) (by exact hm) rfl rfl rfl rfl (Nat.le_of_ble_eq_true rfl) (fun v9 h9 z9 => ?_)
    obtain ⟨rfl, hT9, qoff⟩ := z9
    have hM := hM.off qoff (by omega)
    have hP := hP.q qoff.r2 hM hT9.ta
    have hoff := hoff.trans (qoff.wide (a' := m) (b' := m + 21) (by omega) (by omega))
    have hm := hM.1
    have hw := hM.2
    rw [u_at_full cnt (by have := u_nf_le (σ := m_D w) cnt; omega)] at hT9
    obtain ⟨a, b, cc, ⟨ha, hb, hcc⟩, hF⟩ := id hT9
    have hbe : k_be (m_D w) cnt rm ≤ rm := (ka_be_ok (f := fun x => (k_mt (m_D w) cnt x).1) rm).1
    have hbd := fun x => k_mtb okm cnt (Nat.le_refl _) x
    refine g_aload_n dX9_optimalPlans_28 rfl (by rfl) ?_
    refine g_iload_n dX9_optimalPlans_29 rfl (by rfl) ?_
    rw [hrm]
    refine g_callV_e (c_X9_bestExact hM hn hT9 (fun x _ => by have := hbd x; omega) (r := rm) hrm100) dX9_optimalPlans_30 (mX9_bestExact) rfl lX9_105 iX9_bestExact vX9_bestExact (by decide) (by omega) (by exact hm) rfl rfl rfl rfl (Nat.le_of_ble_eq_true rfl) ?_
    refine g_istore_n dX9_optimalPlans_33 rfl (by decide) ?_
    refine g_iconst 0 dX9_optimalPlans_34 (by rfl) ?_
    refine g_istore_n dX9_optimalPlans_35 rfl (by decide) ?_
    refine g_iconst 0 dX9_optimalPlans_36 (by rfl) ?_
    refine g_istore dX9_optimalPlans_37 (by decide) ?_
    have hbk := hbd (k_be (m_D w) cnt rm)
    have loop : ∀ (r k : Nat), k + r = rm + 1 → s_G TX9_optimalPlans (s_rp n (fun v9 h1 => v9 = some (.int (if d_room π.1 cnt < 0 then 0 else nI (v_op π.1 cnt))) ∧ m_R h1 m π 0 ∧ s_off h h1 m (m + 21)) s_no) 39 (s_lvs [(0, .ref m), (1, .int (nI rm)), (2, .int (nI (k_be (m_D w) cnt rm))), (3, .int (nI (ka_su (fun x => if (k_mt (m_D w) cnt x).1 = (k_mt (m_D w) cnt (k_be (m_D w) cnt rm)).1 then (k_mt (m_D w) cnt x).2.2 else 0) k))), (4, .int (nI k))]) [] h9 n 0 0 := by
      intro r
      induction r with
      | zero =>
        intro k hk
        refine g_iload dX9_optimalPlans_39 (by rfl) ?_
        refine g_iload_n dX9_optimalPlans_41 rfl (by rfl) ?_
        refine g_icmp_gt (tgt := 81) dX9_optimalPlans_42 (by decide) (fun _ => ?_) (fun c_42 => absurd (nI_lt (by omega) (by omega)) c_42)
        refine g_iload_n dX9_optimalPlans_81 rfl (by rfl) ?_
        refine g_ireturn dX9_optimalPlans_82 rfl ?_
        obtain rfl : k = rm + 1 := by omega
        exact ⟨rfl, by rw [if_neg (by rw [← he.room, hrm]; exact nI_pos (by omega)), ← he.op okm]; unfold v_op; rw [hrm, nI_clamp (by omega), ← ka_count (by omega) (by omega) (fun i hi => (k_it okm hi).2.1)]; exact rfl, ⟨_, _, _, _, _, _, hP, rfl, hr1, hrr⟩, hoff⟩
      | succ r ih =>
        intro k hk
        have hbk2 := hbd k
        refine g_iload dX9_optimalPlans_39 (by rfl) ?_
        refine g_iload_n dX9_optimalPlans_41 rfl (by rfl) ?_
        refine g_icmp_gt (tgt := 81) dX9_optimalPlans_42 (by decide) (fun c_42 => absurd c_42 (show ¬ nI rm < nI k from fun z => by rw [nI_lti (by omega) (by omega)] at z; omega)) (fun _ => ?_)
        refine g_iload_n dX9_optimalPlans_45 rfl (by rfl) ?_
        refine g_aload_n dX9_optimalPlans_46 rfl (by rfl) ?_
        refine g_getf dX9_optimalPlans_47 fX9_34 (by exact hm) (by omega) (by rfl) ?_
        refine g_iload dX9_optimalPlans_50 (by rfl) ?_
        refine g_iald dX9_optimalPlans_52 (by exact ha) (by omega) (by rfl) (by omega) (by omega) ?_
        rw [(hF k (by omega)).1]
        refine g_aload_n dX9_optimalPlans_53 rfl (by rfl) ?_
        refine g_getf dX9_optimalPlans_54 fX9_34 (by exact hm) (by omega) (by rfl) ?_
        refine g_iload_n dX9_optimalPlans_57 rfl (by rfl) ?_
        refine g_iald dX9_optimalPlans_58 (by exact ha) (by omega) (by rfl) (by omega) (by omega) ?_
        rw [(hF (k_be (m_D w) cnt rm) (by omega)).1]
        refine g_icmp_ne (tgt := 72) dX9_optimalPlans_59 (by decide) (fun c_59 => ?_) (fun c_59 => ?_)
        · have hne : ¬ (k_mt (m_D w) cnt k).1 = (k_mt (m_D w) cnt (k_be (m_D w) cnt rm)).1 := fun z => c_59 (by rw [z])
          refine g_iconst 0 dX9_optimalPlans_72 (by rfl) ?_
          refine g_iadd dX9_optimalPlans_73 ?_
          refine g_istore_n dX9_optimalPlans_74 rfl (by decide) ?_
          refine g_iinc (nI (k + 1)) dX9_optimalPlans_75 (by rfl) (nI_inc k) ?_
          refine g_goto (tgt := 39) dX9_optimalPlans_78 (by decide) ?_
          first
          | (have e : (ka_su (fun x => if (k_mt (m_D w) cnt x).1 = (k_mt (m_D w) cnt (k_be (m_D w) cnt rm)).1 then (k_mt (m_D w) cnt x).2.2 else 0) (k + 1)) = (ka_su (fun x => if (k_mt (m_D w) cnt x).1 = (k_mt (m_D w) cnt (k_be (m_D w) cnt rm)).1 then (k_mt (m_D w) cnt x).2.2 else 0) k) + (k_mt (m_D w) cnt k).2.2 := congrArg (fun z => ka_su _ k + z) (if_pos heq)
             exact g_lv (ih (k + 1) (by omega)) ⟨rfl, rfl, rfl, by rw [e]; show some _ = some _; rw [nI_add], rfl, trivial⟩)
          | (have e : (ka_su (fun x => if (k_mt (m_D w) cnt x).1 = (k_mt (m_D w) cnt (k_be (m_D w) cnt rm)).1 then (k_mt (m_D w) cnt x).2.2 else 0) (k + 1)) = (ka_su (fun x => if (k_mt (m_D w) cnt x).1 = (k_mt (m_D w) cnt (k_be (m_D w) cnt rm)).1 then (k_mt (m_D w) cnt x).2.2 else 0) k) := (congrArg (fun z => ka_su _ k + z) (if_neg hne)).trans (Nat.add_zero _)
             exact g_lv (ih (k + 1) (by omega)) ⟨rfl, rfl, rfl, by rw [e]; show some _ = some _; rw [Int32.add_zero], rfl, trivial⟩)
        · have heq : (k_mt (m_D w) cnt k).1 = (k_mt (m_D w) cnt (k_be (m_D w) cnt rm)).1 := kI_inj (by omega) (by omega) (by omega) (by omega) c_59
          refine g_aload_n dX9_optimalPlans_62 rfl (by rfl) ?_
          refine g_getf dX9_optimalPlans_63 fX9_40 (by exact hm) (by omega) (by rfl) ?_
          refine g_iload dX9_optimalPlans_66 (by rfl) ?_
          refine g_iald dX9_optimalPlans_68 (by exact hcc) (by omega) (by rfl) (by omega) (by omega) ?_
          rw [(hF k (by omega)).2.2]
          refine g_goto (tgt := 73) dX9_optimalPlans_69 (by decide) ?_
          refine g_iadd dX9_optimalPlans_73 ?_
          refine g_istore_n dX9_optimalPlans_74 rfl (by decide) ?_
          refine g_iinc (nI (k + 1)) dX9_optimalPlans_75 (by rfl) (nI_inc k) ?_
          refine g_goto (tgt := 39) dX9_optimalPlans_78 (by decide) ?_
          first
          | (have e : (ka_su (fun x => if (k_mt (m_D w) cnt x).1 = (k_mt (m_D w) cnt (k_be (m_D w) cnt rm)).1 then (k_mt (m_D w) cnt x).2.2 else 0) (k + 1)) = (ka_su (fun x => if (k_mt (m_D w) cnt x).1 = (k_mt (m_D w) cnt (k_be (m_D w) cnt rm)).1 then (k_mt (m_D w) cnt x).2.2 else 0) k) + (k_mt (m_D w) cnt k).2.2 := congrArg (fun z => ka_su _ k + z) (if_pos heq)
             exact g_lv (ih (k + 1) (by omega)) ⟨rfl, rfl, rfl, by rw [e]; show some _ = some _; rw [nI_add], rfl, trivial⟩)
          | (have e : (ka_su (fun x => if (k_mt (m_D w) cnt x).1 = (k_mt (m_D w) cnt (k_be (m_D w) cnt rm)).1 then (k_mt (m_D w) cnt x).2.2 else 0) (k + 1)) = (ka_su (fun x => if (k_mt (m_D w) cnt x).1 = (k_mt (m_D w) cnt (k_be (m_D w) cnt rm)).1 then (k_mt (m_D w) cnt x).2.2 else 0) k) := (congrArg (fun z => ka_su _ k + z) (if_neg hne)).trans (Nat.add_zero _)
             exact g_lv (ih (k + 1) (by omega)) ⟨rfl, rfl, rfl, by rw [e]; show some _ = some _; rw [Int32.add_zero], rfl, trivial⟩)
    exact g_lv (loop (rm + 1) 0 (by omega)) ⟨rfl, by first | rfl | (rw [hrm]; rfl), rfl, rfl, rfl, trivial⟩
  · have hr : d_room (m_D w) cnt < 0 := Int32.not_le.mp c_17
    refine g_iconst 0 dX9_optimalPlans_20 (by rfl) ?_
    refine g_ireturn dX9_optimalPlans_21 rfl ?_
    exact ⟨rfl, by rw [if_pos (by rw [← he.room]; exact hr)], ⟨_, _, _, _, _, _, hP, rfl, hr1, hrr⟩, hoff⟩
