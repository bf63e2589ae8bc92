/-! THE MODEL: the script's arguments -/
theorem x_nx_ek {tx : Nat → Int32} {len : Nat} {S : x_S} : (x_nx tx len S).2.1 = S.2.1 := by
  unfold x_nx
  split <;> rfl
/-- the present token as a number within bounds -/
def m_nu (tx : Nat → Int32) (lo hi : Int32) (S : x_S) : x_S := if S.2.1 = 0 then (if S.2.2.2.2.1 = 2 then (if (x_nm tx (S.2.2.2.1 - S.2.2.2.2.2.1) S.2.2.2.2.2.1 0) < lo ∨ hi < (x_nm tx (S.2.2.2.1 - S.2.2.2.2.2.1) S.2.2.2.2.2.1 0) then x_fail S 2 else S) else x_fail S 1) else S
theorem m_nu_g {tx : Nat → Int32} {lo hi : Int32} {S : x_S} (h : (m_nu tx lo hi S).2.1 = 0) : m_nu tx lo hi S = S ∧ S.2.1 = 0 ∧ S.2.2.2.2.1 = 2 ∧ ¬ ((x_nm tx (S.2.2.2.1 - S.2.2.2.2.2.1) S.2.2.2.2.2.1 0) < lo ∨ hi < (x_nm tx (S.2.2.2.1 - S.2.2.2.2.2.1) S.2.2.2.2.2.1 0)) := by
  unfold m_nu at h ⊢
  split
  · rename_i h1
    rw [if_pos h1] at h
    split
    · rename_i h2
      rw [if_pos h2] at h
      split
      · rename_i h3
        rw [if_pos h3] at h
        exact absurd h (show ¬ (2 : Int32) = 0 by decide)
      · rename_i h3
        exact ⟨rfl, h1, h2, h3⟩
    · rename_i h2
      rw [if_neg h2] at h
      exact absurd h (show ¬ (1 : Int32) = 0 by decide)
  · rename_i h1
    rw [if_neg h1] at h
    exact absurd h h1
theorem m_nu_1 {tx : Nat → Int32} {lo hi : Int32} {S : x_S} (h : S.2.1 = 0 → ¬ S.2.2.2.2.1 = 2) : m_nu tx lo hi S = m_fl S 1 := by
  unfold m_nu m_fl
  split
  · rename_i h1; rw [if_neg (h h1)]
  · rfl
theorem m_nu_2 {tx : Nat → Int32} {lo hi : Int32} {S : x_S} (h : S.2.1 = 0 → S.2.2.2.2.1 = 2 ∧ ((x_nm tx (S.2.2.2.1 - S.2.2.2.2.2.1) S.2.2.2.2.2.1 0) < lo ∨ hi < (x_nm tx (S.2.2.2.1 - S.2.2.2.2.2.1) S.2.2.2.2.2.1 0))) : m_nu tx lo hi S = m_fl S 2 := by
  unfold m_nu m_fl
  split
  · rename_i h1; rw [if_pos (h h1).1, if_pos (h h1).2]
  · rfl
theorem m_nu_0 {tx : Nat → Int32} {lo hi : Int32} {S : x_S} (h : S.2.1 = 0 → S.2.2.2.2.1 = 2 ∧ ¬ ((x_nm tx (S.2.2.2.1 - S.2.2.2.2.2.1) S.2.2.2.2.2.1 0) < lo ∨ hi < (x_nm tx (S.2.2.2.1 - S.2.2.2.2.2.1) S.2.2.2.2.2.1 0))) : m_nu tx lo hi S = S := by
  unfold m_nu
  split
  · rename_i h1; rw [if_pos (h h1).1, if_neg (h h1).2]
  · rfl
def m_nv (tx : Nat → Int32) (lo hi : Int32) (S : x_S) : Int32 := if (m_nu tx lo hi S).2.1 = 0 then (x_nm tx (S.2.2.2.1 - S.2.2.2.2.2.1) S.2.2.2.2.2.1 0) else 0
/-- the semicolon, and whether the command can be executed -/
def m_en (b : Bool) (S : x_S) : x_S := if S.2.1 = 0 then (if S.2.2.2.2.1 = 59 then (if b = true then S else x_fail S 3) else x_fail S 1) else S
theorem m_en_1 {b : Bool} {S : x_S} (h : S.2.1 = 0 → ¬ S.2.2.2.2.1 = 59) : m_en b S = m_fl S 1 := by
  unfold m_en m_fl
  split
  · rename_i h1; rw [if_neg (h h1)]
  · rfl
theorem m_en_2 {S : x_S} (h : S.2.1 = 0 → S.2.2.2.2.1 = 59) : m_en false S = m_fl S 3 := by
  unfold m_en m_fl
  split
  · rename_i h1; rw [if_pos (h h1)]; rfl
  · rfl
theorem m_en_0 {S : x_S} (h : S.2.1 = 0 → S.2.2.2.2.1 = 59) : m_en true S = S := by
  unfold m_en
  split
  · rename_i h1; rw [if_pos (h h1)]; rfl
  · rfl
theorem m_fl_fl {S : x_S} {a b : Int32} (ha : ¬ a = 0) : m_fl (m_fl S a) b = m_fl S a := by
  by_cases h : S.2.1 = 0
  · rw [m_fl_y h]
    exact m_fl_n (show ¬ a = 0 from ha)
  · rw [m_fl_n h, m_fl_n h]

theorem c_advance {h : s_H} {n m len dp : Nat} {I0 sn tm rp tx : Nat → Int32} {P : Nat → Nat → Int32} {S : x_S} (hw : m_ss h m I0 sn P tm rp tx len dp S) (hK : m_kx I0 tm tx len) (hn : m + 21 ≤ n) : s_Mt TX9_advance 0 0 [.ref m] h n (s_rp n (fun v9 h1 => v9 = none ∧ m_ss h1 m I0 sn P tm rp tx len dp (x_nx tx len S) ∧ m_of h h1 m) s_no) := by
  obtain ⟨I, w, hP, hfr, h21, h22, hD, htk⟩ := id hw
  have hm := hP.1.1
  have hx := hP.2.2.2.2.2.1
  have hoff : m_of h h m := m_of.rf
  refine s_Mt_of rfl (by decide) (by exact Nat.le_of_ble_eq_true rfl) ?_
  refine g_aload_n dX9_advance_0 rfl (by rfl) ?_
  refine g_callV_e (c_X9_good hw hK hn) dX9_advance_1 (mX9_good) rfl lX9_198 iX9_good vX9_good (by decide) (by omega) (by exact hm) rfl rfl rfl rfl (Nat.le_of_ble_eq_true rfl) ?_
  refine g_if_eq (tgt := 11) dX9_advance_4 (by decide) (fun c_4 => ?_) (fun c_4 => ?_)
  · have hg : ¬ S.2.1 = 0 := fun z => by rw [if_pos z] at c_4; exact absurd c_4 (by decide)
    refine g_vreturn dX9_advance_11 rfl ?_
    first | (rw [x_nx_y hg]; exact ⟨rfl, rfl, hw, hoff⟩) | (rw [x_nx_n hg]; exact ⟨rfl, rfl, hw, hoff⟩)
  · have hg : S.2.1 = 0 := Classical.byContradiction fun z => c_4 (if_neg z)
    refine g_aload_n dX9_advance_7 rfl (by rfl) ?_
    refine g_callV_p (c_scan (hw.s0 hg) hK hn) dX9_advance_8 (mX9_scan) rfl lX9_202 iX9_scan vX9_scan (by decide) (by omega) (by exact hm) rfl rfl rfl rfl (Nat.le_of_ble_eq_true rfl) (fun v9 h9 z9 => ?_)
    obtain ⟨rfl, hw, qoff⟩ := z9
    have hoff := hoff.trans qoff
    obtain ⟨I, w, hP, hfr, h21, h22, hD, htk⟩ := id hw
    have hm := hP.1.1
    have hx := hP.2.2.2.2.2.1
    refine g_vreturn dX9_advance_11 rfl ?_
    first | (rw [x_nx_y hg]; exact ⟨rfl, rfl, hw, hoff⟩) | (rw [x_nx_n hg]; exact ⟨rfl, rfl, hw, hoff⟩)

theorem c_number {h : s_H} {n m len dp : Nat} {I0 sn tm rp tx : Nat → Int32} {P : Nat → Nat → Int32} {S : x_S} (hw : m_ss h m I0 sn P tm rp tx len dp S) (hK : m_kx I0 tm tx len) (hn : m + 21 ≤ n) (lo hi : Int32) : s_Mt TX9_number 0 0 [.ref m, .int lo, .int hi] h n (s_rp n (fun v9 h1 => v9 = some (.int (m_nv tx lo hi S)) ∧ m_ss h1 m I0 sn P tm rp tx len dp (x_nx tx len (m_nu tx lo hi S)) ∧ m_of h h1 m) s_no) := by
  obtain ⟨I, w, hP, hfr, h21, h22, hD, htk⟩ := id hw
  have hm := hP.1.1
  have hx := hP.2.2.2.2.2.1
  have hoff : m_of h h m := m_of.rf
  have tail : ∀ (h' : s_H) (Y : x_S), m_ss h' m I0 sn P tm rp tx len dp Y → m_nu tx lo hi S = Y → m_of h h' m → s_G TX9_number (s_rp n (fun v9 h1 => v9 = some (.int (m_nv tx lo hi S)) ∧ m_ss h1 m I0 sn P tm rp tx len dp (x_nx tx len (m_nu tx lo hi S)) ∧ m_of h h1 m) s_no) 37 (s_lvs [(0, .ref m), (1, .int lo), (2, .int hi)]) [] h' n 0 0 := by
    intro h' Y hw hY hoff
    obtain ⟨I, w, hP, hfr, h21, h22, hD, htk⟩ := id hw
    have hm := hP.1.1
    have hf : Y.2.1 = 0 → I 20 = (x_nm tx (S.2.2.2.1 - S.2.2.2.2.2.1) S.2.2.2.2.2.1 0) := fun z => by
      obtain ⟨e1, e2, e3, e4⟩ := m_nu_g (tx := tx) (lo := lo) (hi := hi) (S := S) (by rw [hY]; exact z)
      rw [← hY, e1] at htk
      exact (htk e2).2.2.2.2.2.2.2 e3
    refine g_aload_n dX9_number_37 rfl (by rfl) ?_
    refine g_getf dX9_number_38 fX9_180 (by exact hm) (by omega) (by rfl) ?_
    generalize hf9 : I 20 = f9 at *
    refine g_istore_n dX9_number_41 rfl (by decide) ?_
    refine g_aload_n dX9_number_42 rfl (by rfl) ?_
    refine g_callV_p (c_advance hw hK hn) dX9_number_43 (mX9_advance) rfl lX9_208 iX9_advance vX9_advance (by decide) (by omega) (by exact hm) rfl rfl rfl rfl (Nat.le_of_ble_eq_true rfl) (fun v9 h9 z9 => ?_)
    obtain ⟨rfl, hw, qoff⟩ := z9
    have hoff := hoff.trans qoff
    obtain ⟨I, w, hP, hfr, h21, h22, hD, htk⟩ := id hw
    have hm := hP.1.1
    have hx := hP.2.2.2.2.2.1
    refine g_aload_n dX9_number_46 rfl (by rfl) ?_
    refine g_callV_e (c_X9_good hw hK hn) dX9_number_47 (mX9_good) rfl lX9_198 iX9_good vX9_good (by decide) (by omega) (by exact hm) rfl rfl rfl rfl (Nat.le_of_ble_eq_true rfl) ?_
    rw [x_nx_ek]
    refine g_if_eq (tgt := 57) dX9_number_50 (by decide) (fun c_50 => ?_) (fun c_50 => ?_)
    · have hg : ¬ Y.2.1 = 0 := fun z => by rw [if_pos z] at c_50; exact absurd c_50 (by decide)
      have hv : m_nv tx lo hi S = 0 := if_neg (by rw [hY]; exact hg)
      refine g_iconst 0 dX9_number_57 (by rfl) ?_
      refine g_ireturn dX9_number_58 rfl ?_
      rw [hv, hY]
      exact ⟨rfl, rfl, hw, hoff⟩
    · have hg : Y.2.1 = 0 := Classical.byContradiction fun z => c_50 (if_neg z)
      have hv : m_nv tx lo hi S = f9 := by
        unfold m_nv
        rw [if_pos (by rw [hY]; exact hg)]
        exact (hf hg).symm
      refine g_iload_n dX9_number_53 rfl (by rfl) ?_
      refine g_goto (tgt := 58) dX9_number_54 (by decide) ?_
      refine g_ireturn dX9_number_58 rfl ?_
      rw [hv, hY]
      exact ⟨rfl, rfl, hw, hoff⟩
  refine s_Mt_of rfl (by decide) (by exact Nat.le_of_ble_eq_true rfl) ?_
  refine g_aload_n dX9_number_0 rfl (by rfl) ?_
  refine g_getf dX9_number_1 fX9_171 (by exact hm) (by omega) (by rfl) ?_
  refine g_iconst 2 dX9_number_4 (by rfl) ?_
  refine g_icmp_eq (tgt := 16) dX9_number_5 (by decide) (fun c_5 => ?_) (fun c_5 => ?_)
  · have hY2 : S.2.1 = 0 → S.2.2.2.2.1 = 2 ∧ I 20 = (x_nm tx (S.2.2.2.1 - S.2.2.2.2.2.1) S.2.2.2.2.2.1 0) := fun z => by
      have := m_kd_i.2.2.1.mp ((htk z).2.2.2.2.2.2.1.symm.trans c_5)
      exact ⟨this, (htk z).2.2.2.2.2.2.2 this⟩
    refine g_aload_n dX9_number_16 rfl (by rfl) ?_
    refine g_getf dX9_number_17 fX9_180 (by exact hm) (by omega) (by rfl) ?_
    refine g_iload_n dX9_number_20 rfl (by rfl) ?_
    refine g_icmp_lt (tgt := 32) dX9_number_21 (by decide) (fun c_21 => ?_) (fun c_21 => ?_)
    · have hY : m_nu tx lo hi S = m_fl S 2 := m_nu_2 (fun z => ⟨(hY2 z).1, Or.inl (by rw [← (hY2 z).2]; exact c_21)⟩)
      refine g_aload_n dX9_number_32 rfl (by rfl) ?_
      refine g_iconst 2 dX9_number_33 (by rfl) ?_
      refine g_callV_p (c_X9_fail hw hK hn (k := 2) (by decide)) dX9_number_34 (mX9_fail) rfl lX9_205 iX9_fail vX9_fail (by decide) (by omega) (by exact hm) rfl rfl rfl rfl (Nat.le_of_ble_eq_true rfl) (fun v9 h9 z9 => ?_)
      obtain ⟨rfl, hw, qoff⟩ := z9
      have hoff := hoff.trans qoff
      obtain ⟨I, w, hP, hfr, h21, h22, hD, htk⟩ := id hw
      have hm := hP.1.1
      have hx := hP.2.2.2.2.2.1
      exact g_lv (tail _ _ hw hY hoff) ⟨rfl, rfl, rfl, trivial⟩
    · refine g_aload_n dX9_number_24 rfl (by rfl) ?_
      refine g_getf dX9_number_25 fX9_180 (by exact hm) (by omega) (by rfl) ?_
      refine g_iload_n dX9_number_28 rfl (by rfl) ?_
      refine g_icmp_le (tgt := 37) dX9_number_29 (by decide) (fun c_29 => ?_) (fun c_29 => ?_)
      · have hY : m_nu tx lo hi S = S := m_nu_0 (fun z => ⟨(hY2 z).1, fun y => y.elim (fun y => c_21 (by rw [(hY2 z).2]; exact y)) (fun y => absurd c_29 (by rw [(hY2 z).2]; exact Int32.not_le.mpr y))⟩)
        exact g_lv (tail _ _ hw hY hoff) ⟨rfl, rfl, rfl, trivial⟩
      · have hY : m_nu tx lo hi S = m_fl S 2 := m_nu_2 (fun z => ⟨(hY2 z).1, Or.inr (by rw [← (hY2 z).2]; exact Int32.not_le.mp c_29)⟩)
        refine g_aload_n dX9_number_32 rfl (by rfl) ?_
        refine g_iconst 2 dX9_number_33 (by rfl) ?_
        refine g_callV_p (c_X9_fail hw hK hn (k := 2) (by decide)) dX9_number_34 (mX9_fail) rfl lX9_205 iX9_fail vX9_fail (by decide) (by omega) (by exact hm) rfl rfl rfl rfl (Nat.le_of_ble_eq_true rfl) (fun v9 h9 z9 => ?_)
        obtain ⟨rfl, hw, qoff⟩ := z9
        have hoff := hoff.trans qoff
        obtain ⟨I, w, hP, hfr, h21, h22, hD, htk⟩ := id hw
        have hm := hP.1.1
        have hx := hP.2.2.2.2.2.1
        exact g_lv (tail _ _ hw hY hoff) ⟨rfl, rfl, rfl, trivial⟩
  · have hY : m_nu tx lo hi S = m_fl S 1 := m_nu_1 (fun z y => c_5 ((htk z).2.2.2.2.2.2.1.trans (m_kd_i.2.2.1.mpr y)))
    refine g_aload_n dX9_number_8 rfl (by rfl) ?_
    refine g_iconst 1 dX9_number_9 (by rfl) ?_
    refine g_callV_p (c_X9_fail hw hK hn (k := 1) (by decide)) dX9_number_10 (mX9_fail) rfl lX9_205 iX9_fail vX9_fail (by decide) (by omega) (by exact hm) rfl rfl rfl rfl (Nat.le_of_ble_eq_true rfl) (fun v9 h9 z9 => ?_)
    obtain ⟨rfl, hw, qoff⟩ := z9
    have hoff := hoff.trans qoff
    obtain ⟨I, w, hP, hfr, h21, h22, hD, htk⟩ := id hw
    have hm := hP.1.1
    have hx := hP.2.2.2.2.2.1
    refine g_goto (tgt := 37) dX9_number_13 (by decide) ?_
    exact g_lv (tail _ _ hw hY hoff) ⟨rfl, rfl, rfl, trivial⟩

theorem c_anItem {h : s_H} {n m len dp : Nat} {I0 sn tm rp tx : Nat → Int32} {P : Nat → Nat → Int32} {S : x_S} (hw : m_ss h m I0 sn P tm rp tx len dp S) (hK : m_kx I0 tm tx len) (hn : m + 21 ≤ n) : s_Mt TX9_anItem 0 0 [.ref m] h n (s_rp n (fun v9 h1 => v9 = some (.int (m_nv tx 0 (nI (x_cn S.1) - 1) S)) ∧ m_ss h1 m I0 sn P tm rp tx len dp (x_nx tx len (m_nu tx 0 (nI (x_cn S.1) - 1) S)) ∧ m_of h h1 m) s_no) := by
  obtain ⟨I, w, hP, hfr, h21, h22, hD, htk⟩ := id hw
  have hm := hP.1.1
  have hx := hP.2.2.2.2.2.1
  have hoff : m_of h h m := m_of.rf
  have hw2 := hP.1.2
  have hc : w 1 = nI (x_cn S.1) := by
    obtain ⟨cnt, cp, ok, he⟩ := hD
    rw [ok.cn]
    exact (he.sy.ok ok).1
  refine s_Mt_of rfl (by decide) (by exact Nat.le_of_ble_eq_true rfl) ?_
  refine g_aload_n dX9_anItem_0 rfl (by rfl) ?_
  refine g_iconst 0 dX9_anItem_1 (by rfl) ?_
  refine g_aload_n dX9_anItem_2 rfl (by rfl) ?_
  refine g_getf dX9_anItem_3 fX9_9 (by exact hm) (by omega) (by rfl) ?_
  refine g_iconst 1 dX9_anItem_6 (by rfl) ?_
  refine g_iald dX9_anItem_7 (by exact hw2) (by omega) (show (1 : Int32) = nI 1 from rfl) (by decide) (by omega) ?_
  rw [hc]
  refine g_iconst 1 dX9_anItem_8 (by rfl) ?_
  refine g_isub dX9_anItem_9 ?_
  refine g_callV_p (c_number hw hK hn 0 (nI (x_cn S.1) - 1)) dX9_anItem_10 (mX9_number) rfl lX9_211 iX9_number vX9_number (by decide) (by omega) (by exact hm) rfl rfl rfl rfl (Nat.le_of_ble_eq_true rfl) (fun v9 h9 z9 => ?_)
  obtain ⟨rfl, hw, qoff⟩ := z9
  have hoff := hoff.trans qoff
  obtain ⟨I, w, hP, hfr, h21, h22, hD, htk⟩ := id hw
  have hm := hP.1.1
  have hx := hP.2.2.2.2.2.1
  refine g_ireturn dX9_anItem_13 rfl ?_
  exact ⟨rfl, rfl, hw, hoff⟩

theorem c_ends {h : s_H} {n m len dp : Nat} {I0 sn tm rp tx : Nat → Int32} {P : Nat → Nat → Int32} {S : x_S} (hw : m_ss h m I0 sn P tm rp tx len dp S) (hK : m_kx I0 tm tx len) (hn : m + 21 ≤ n) (b : Bool) : s_Mt TX9_ends 0 0 [.ref m, .int (x_bi b)] h n (s_rp n (fun v9 h1 => v9 = some (.int (if (m_en b S).2.1 = 0 then 1 else 0)) ∧ m_ss h1 m I0 sn P tm rp tx len dp (m_en b S) ∧ m_of h h1 m) s_no) := by
  obtain ⟨I, w, hP, hfr, h21, h22, hD, htk⟩ := id hw
  have hm := hP.1.1
  have hx := hP.2.2.2.2.2.1
  have hoff : m_of h h m := m_of.rf
  have tail : ∀ (h' : s_H) (Y : x_S), m_ss h' m I0 sn P tm rp tx len dp Y → m_en b S = Y → m_of h h' m → s_G TX9_ends (s_rp n (fun v9 h1 => v9 = some (.int (if (m_en b S).2.1 = 0 then 1 else 0)) ∧ m_ss h1 m I0 sn P tm rp tx len dp (m_en b S) ∧ m_of h h1 m) s_no) 22 (s_lvs [(0, .ref m), (1, .int (x_bi b))]) [] h' n 0 0 := by
    intro h' Y hw hY hoff
    obtain ⟨I, w, hP, hfr, h21, h22, hD, htk⟩ := id hw
    have hm := hP.1.1
    refine g_aload_n dX9_ends_22 rfl (by rfl) ?_
    refine g_callV_e (c_X9_good hw hK hn) dX9_ends_23 (mX9_good) rfl lX9_198 iX9_good vX9_good (by decide) (by omega) (by exact hm) rfl rfl rfl rfl (Nat.le_of_ble_eq_true rfl) ?_
    refine g_zreturn dX9_ends_26 rfl (by split <;> decide) ?_
    rw [hY]
    exact ⟨rfl, rfl, hw, hoff⟩
  refine s_Mt_of rfl (by decide) (by exact Nat.le_of_ble_eq_true rfl) ?_
  refine g_aload_n dX9_ends_0 rfl (by rfl) ?_
  refine g_getf dX9_ends_1 fX9_171 (by exact hm) (by omega) (by rfl) ?_
  refine g_iconst 1 dX9_ends_4 (by rfl) ?_
  refine g_icmp_eq (tgt := 13) dX9_ends_5 (by decide) (fun c_5 => ?_) (fun c_5 => ?_)
  · have hyes : S.2.1 = 0 → S.2.2.2.2.1 = 59 := fun z => m_kd_i.2.2.2.1.mp ((htk z).2.2.2.2.2.2.1.symm.trans c_5)
    refine g_iload_n dX9_ends_13 rfl (by rfl) ?_
    refine g_if_ne (tgt := 22) dX9_ends_14 (by decide) (fun c_14 => ?_) (fun c_14 => ?_)
    · have hb := x_bi_t c_14
      first
      | exact g_lv (tail _ _ hw hY hoff) ⟨rfl, rfl, trivial⟩
      | exact g_lv (tail _ _ hw (by rw [m_fl_fl (by decide)]; exact hY) hoff) ⟨rfl, rfl, trivial⟩
      | exact g_lv (tail _ _ hw (by rw [hb]; exact m_en_0 hyes) hoff) ⟨rfl, rfl, trivial⟩
      | exact g_lv (tail _ _ hw (by rw [show b = false from by cases b; rfl; exact absurd rfl hb]; exact m_en_2 hyes) hoff) ⟨rfl, rfl, trivial⟩
    · have hb := x_bi_f c_14
      refine g_aload_n dX9_ends_17 rfl (by rfl) ?_
      refine g_iconst 3 dX9_ends_18 (by rfl) ?_
      refine g_callV_p (c_X9_fail hw hK hn (k := 3) (by decide)) dX9_ends_19 (mX9_fail) rfl lX9_205 iX9_fail vX9_fail (by decide) (by omega) (by exact hm) rfl rfl rfl rfl (Nat.le_of_ble_eq_true rfl) (fun v9 h9 z9 => ?_)
      obtain ⟨rfl, hw, qoff⟩ := z9
      have hoff := hoff.trans qoff
      obtain ⟨I, w, hP, hfr, h21, h22, hD, htk⟩ := id hw
      have hm := hP.1.1
      have hx := hP.2.2.2.2.2.1
      first
      | exact g_lv (tail _ _ hw hY hoff) ⟨rfl, rfl, trivial⟩
      | exact g_lv (tail _ _ hw (by rw [m_fl_fl (by decide)]; exact hY) hoff) ⟨rfl, rfl, trivial⟩
      | exact g_lv (tail _ _ hw (by rw [hb]; exact m_en_0 hyes) hoff) ⟨rfl, rfl, trivial⟩
      | exact g_lv (tail _ _ hw (by rw [show b = false from by cases b; rfl; exact absurd rfl hb]; exact m_en_2 hyes) hoff) ⟨rfl, rfl, trivial⟩
  · have hno : S.2.1 = 0 → ¬ S.2.2.2.2.1 = 59 := fun z y => c_5 ((htk z).2.2.2.2.2.2.1.trans (m_kd_i.2.2.2.1.mpr y))
    have hY : m_en b S = m_fl S 1 := m_en_1 hno
    refine g_aload_n dX9_ends_8 rfl (by rfl) ?_
    refine g_iconst 1 dX9_ends_9 (by rfl) ?_
    refine g_callV_p (c_X9_fail hw hK hn (k := 1) (by decide)) dX9_ends_10 (mX9_fail) rfl lX9_205 iX9_fail vX9_fail (by decide) (by omega) (by exact hm) rfl rfl rfl rfl (Nat.le_of_ble_eq_true rfl) (fun v9 h9 z9 => ?_)
    obtain ⟨rfl, hw, qoff⟩ := z9
    have hoff := hoff.trans qoff
    obtain ⟨I, w, hP, hfr, h21, h22, hD, htk⟩ := id hw
    have hm := hP.1.1
    have hx := hP.2.2.2.2.2.1
    refine g_iload_n dX9_ends_13 rfl (by rfl) ?_
    refine g_if_ne (tgt := 22) dX9_ends_14 (by decide) (fun c_14 => ?_) (fun c_14 => ?_)
    · have hb := x_bi_t c_14
      first
      | exact g_lv (tail _ _ hw hY hoff) ⟨rfl, rfl, trivial⟩
      | exact g_lv (tail _ _ hw (by rw [m_fl_fl (by decide)]; exact hY) hoff) ⟨rfl, rfl, trivial⟩
      | exact g_lv (tail _ _ hw (by rw [hb]; exact m_en_0 hyes) hoff) ⟨rfl, rfl, trivial⟩
      | exact g_lv (tail _ _ hw (by rw [show b = false from by cases b; rfl; exact absurd rfl hb]; exact m_en_2 hyes) hoff) ⟨rfl, rfl, trivial⟩
    · have hb := x_bi_f c_14
      refine g_aload_n dX9_ends_17 rfl (by rfl) ?_
      refine g_iconst 3 dX9_ends_18 (by rfl) ?_
      refine g_callV_p (c_X9_fail hw hK hn (k := 3) (by decide)) dX9_ends_19 (mX9_fail) rfl lX9_205 iX9_fail vX9_fail (by decide) (by omega) (by exact hm) rfl rfl rfl rfl (Nat.le_of_ble_eq_true rfl) (fun v9 h9 z9 => ?_)
      obtain ⟨rfl, hw, qoff⟩ := z9
      have hoff := hoff.trans qoff
      obtain ⟨I, w, hP, hfr, h21, h22, hD, htk⟩ := id hw
      have hm := hP.1.1
      have hx := hP.2.2.2.2.2.1
      first
      | exact g_lv (tail _ _ hw hY hoff) ⟨rfl, rfl, trivial⟩
      | exact g_lv (tail _ _ hw (by rw [m_fl_fl (by decide)]; exact hY) hoff) ⟨rfl, rfl, trivial⟩
      | exact g_lv (tail _ _ hw (by rw [hb]; exact m_en_0 hyes) hoff) ⟨rfl, rfl, trivial⟩
      | exact g_lv (tail _ _ hw (by rw [show b = false from by cases b; rfl; exact absurd rfl hb]; exact m_en_2 hyes) hoff) ⟨rfl, rfl, trivial⟩
