/-! THE MODEL: commands executed -/
/-- what comes behind a command's word -/
noncomputable def x_do (tx : Nat → Int32) (len j : Nat) (S : x_S) : Bool × x_S :=
  if (x_arg tx len (x_k1 j) S).1 = -1 then (false, (x_arg tx len (x_k1 j) S).2) else
  if (x_arg tx len (x_k2 j) (x_arg tx len (x_k1 j) S).2).1 = -1 then (false, (x_arg tx len (x_k2 j) (x_arg tx len (x_k1 j) S).2).2) else
  if (x_next tx len (x_arg tx len (x_k2 j) (x_arg tx len (x_k1 j) S).2).2).2.2.2.2.1 = 59 then x_exec j (x_arg tx len (x_k1 j) S).1 (x_arg tx len (x_k2 j) (x_arg tx len (x_k1 j) S).2).1 (x_next tx len (x_arg tx len (x_k2 j) (x_arg tx len (x_k1 j) S).2).2) else (false, x_fail (x_next tx len (x_arg tx len (x_k2 j) (x_arg tx len (x_k1 j) S).2).2) 1)
theorem x_cmd_n {tx : Nat → Int32} {len : Nat} {S : x_S} (h : x_fc tx S.2.2.2.1 S.2.2.2.2.1 S.2.2.2.2.2.1 10 0 = none) : x_cmd tx len S = (false, x_fail S 1) := by
  unfold x_cmd
  rw [h]
theorem x_cmd_5 {tx : Nat → Int32} {len j : Nat} {S : x_S} (h : x_fc tx S.2.2.2.1 S.2.2.2.2.1 S.2.2.2.2.2.1 10 0 = some j) (h5 : 100 ≤ S.2.2.2.2.2.2) : x_cmd tx len S = (false, x_fail S 5) := by
  unfold x_cmd
  rw [h]
  exact if_pos h5
theorem x_cmd_s {tx : Nat → Int32} {len j : Nat} {S : x_S} (h : x_fc tx S.2.2.2.1 S.2.2.2.2.1 S.2.2.2.2.2.1 10 0 = some j) (h5 : ¬ 100 ≤ S.2.2.2.2.2.2) : x_cmd tx len S = x_do tx len j (x_ex1 S) := by
  unfold x_cmd
  rw [h]
  exact if_neg h5
theorem m_arg {tx : Nat → Int32} {len kd : Nat} {S : x_S} {lo hi : Int32} (hk : ¬ kd = 0) (e : x_ar tx len S.2.2.2.1 (x_cn S.1) kd = x_rd tx len S.2.2.2.1 lo hi) (hlo : 0 ≤ lo) (hg : S.2.1 = 0) :
    ((x_arg tx len kd S).1 = -1 ∧ m_nu tx lo hi (x_next tx len S) = (x_arg tx len kd S).2 ∧ ¬ (x_arg tx len kd S).2.2.1 = 0) ∨
    (¬ (x_arg tx len kd S).1 = -1 ∧ m_nu tx lo hi (x_next tx len S) = x_next tx len S ∧ (x_arg tx len kd S).2 = x_next tx len S ∧ m_nv tx lo hi (x_next tx len S) = (x_arg tx len kd S).1) := by
  have E : x_arg tx len kd S = ((x_rd tx len S.2.2.2.1 lo hi).1, if (x_rd tx len S.2.2.2.1 lo hi).2 = 0 then x_next tx len S else x_fail (x_next tx len S) (x_rd tx len S.2.2.2.1 lo hi).2) := by
    unfold x_arg
    rw [if_neg hk, e]
  have hg' : (x_next tx len S).2.1 = 0 := hg
  rw [E]
  by_cases hk2 : (x_next tx len S).2.2.2.2.1 = 2
  · by_cases hb : (x_nm tx ((x_next tx len S).2.2.2.1 - (x_next tx len S).2.2.2.2.2.1) (x_next tx len S).2.2.2.2.2.1 0) < lo ∨ hi < (x_nm tx ((x_next tx len S).2.2.2.1 - (x_next tx len S).2.2.2.2.2.1) (x_next tx len S).2.2.2.2.2.1 0)
    · have r : x_rd tx len S.2.2.2.1 lo hi = (-1, 2) := (if_pos hk2).trans (if_pos hb)
      rw [r, m_nu_2 (fun _ => ⟨hk2, hb⟩), m_fl_y hg']
      exact Or.inl ⟨rfl, rfl, show ¬ (2 : Int32) = 0 by decide⟩
    · have r : x_rd tx len S.2.2.2.1 lo hi = ((x_nm tx ((x_next tx len S).2.2.2.1 - (x_next tx len S).2.2.2.2.2.1) (x_next tx len S).2.2.2.2.2.1 0), 0) := (if_pos hk2).trans (if_neg hb)
      have h0 := m_nu_0 (tx := tx) (lo := lo) (hi := hi) (S := x_next tx len S) (fun _ => ⟨hk2, hb⟩)
      refine Or.inr ?_
      rw [r]
      refine ⟨fun z => hb (Or.inl ?_), h0, rfl, ?_⟩
      · rw [show (x_nm tx ((x_next tx len S).2.2.2.1 - (x_next tx len S).2.2.2.2.2.1) (x_next tx len S).2.2.2.2.2.1 0) = -1 from z]
        exact Int32.not_le.mp (fun y => absurd (Int32.le_trans hlo y) (by decide))
      · unfold m_nv
        rw [h0]
        exact if_pos hg'
  · have r : x_rd tx len S.2.2.2.1 lo hi = (-1, 1) := if_neg hk2
    rw [r, m_nu_1 (fun _ => hk2), m_fl_y hg']
    exact Or.inl ⟨rfl, rfl, show ¬ (1 : Int32) = 0 by decide⟩
theorem x_arg0 {tx : Nat → Int32} {len : Nat} {S : x_S} : x_arg tx len 0 S = (0, S) := if_pos rfl
theorem m_pre0 {tx : Nat → Int32} {len j : Nat} {S : x_S} (k1 : x_k1 j = 0) (k2 : x_k2 j = 0) : x_do tx len j S = if (x_next tx len S).2.2.2.2.1 = 59 then x_exec j 0 0 (x_next tx len S) else (false, x_fail (x_next tx len S) 1) := by
  unfold x_do
  rw [k1, k2, x_arg0, x_arg0, if_neg (show ¬ (0 : Int32) = -1 by decide), if_neg (show ¬ (0 : Int32) = -1 by decide)]
theorem m_pre1 {tx : Nat → Int32} {len j : Nat} {S : x_S} {lo hi : Int32} (k2 : x_k2 j = 0) (k1 : ¬ x_k1 j = 0) (e : x_ar tx len S.2.2.2.1 (x_cn S.1) (x_k1 j) = x_rd tx len S.2.2.2.1 lo hi) (hlo : 0 ≤ lo) (hg : S.2.1 = 0) :
    (¬ (x_nx tx len (m_nu tx lo hi (x_next tx len S))).2.1 = 0 ∧ x_do tx len j S = (false, (x_nx tx len (m_nu tx lo hi (x_next tx len S))))) ∨ ((x_nx tx len (m_nu tx lo hi (x_next tx len S))).2.1 = 0 ∧ (¬ (x_arg tx len (x_k1 j) S).1 = -1 ∧ m_nv tx lo hi (x_next tx len S) = (x_arg tx len (x_k1 j) S).1 ∧ (x_nx tx len (m_nu tx lo hi (x_next tx len S))).1 = S.1) ∧ x_do tx len j S = if (x_nx tx len (m_nu tx lo hi (x_next tx len S))).2.2.2.2.1 = 59 then x_exec j (x_arg tx len (x_k1 j) S).1 0 (x_nx tx len (m_nu tx lo hi (x_next tx len S))) else (false, x_fail (x_nx tx len (m_nu tx lo hi (x_next tx len S))) 1)) := by
  unfold x_do
  rw [k2, x_arg0]
  rcases m_arg k1 e hlo hg with ⟨a1, a2, a3⟩ | ⟨a1, a2, a3, a4⟩
  · rw [a2, x_nx_n a3]
    exact Or.inl ⟨a3, if_pos a1⟩
  · have hg1 : (x_next tx len S).2.1 = 0 := hg
    rw [a2, a3, x_nx_y hg1, if_neg a1, if_neg (show ¬ (0 : Int32) = -1 by decide)]
    exact Or.inr ⟨hg, ⟨a1, a4, rfl⟩, rfl⟩
theorem m_pre2 {tx : Nat → Int32} {len j : Nat} {S : x_S} {lo hi lo2 hi2 : Int32} (k2 : ¬ x_k2 j = 0) (k1 : ¬ x_k1 j = 0) (e : x_ar tx len S.2.2.2.1 (x_cn S.1) (x_k1 j) = x_rd tx len S.2.2.2.1 lo hi) (hlo : 0 ≤ lo) (e2 : ∀ S : x_S, x_ar tx len S.2.2.2.1 (x_cn S.1) (x_k2 j) = x_rd tx len S.2.2.2.1 lo2 hi2) (hlo2 : 0 ≤ lo2) (hg : S.2.1 = 0) :
    (¬ (x_nx tx len (m_nu tx lo2 hi2 (x_nx tx len (m_nu tx lo hi (x_next tx len S))))).2.1 = 0 ∧ x_do tx len j S = (false, (x_nx tx len (m_nu tx lo2 hi2 (x_nx tx len (m_nu tx lo hi (x_next tx len S))))))) ∨ ((x_nx tx len (m_nu tx lo2 hi2 (x_nx tx len (m_nu tx lo hi (x_next tx len S))))).2.1 = 0 ∧ (¬ (x_arg tx len (x_k1 j) S).1 = -1 ∧ m_nv tx lo hi (x_next tx len S) = (x_arg tx len (x_k1 j) S).1 ∧ ¬ (x_arg tx len (x_k2 j) (x_arg tx len (x_k1 j) S).2).1 = -1 ∧ m_nv tx lo2 hi2 (x_nx tx len (m_nu tx lo hi (x_next tx len S))) = (x_arg tx len (x_k2 j) (x_arg tx len (x_k1 j) S).2).1 ∧ (x_arg tx len (x_k1 j) S).2.1 = S.1 ∧ (x_nx tx len (m_nu tx lo2 hi2 (x_nx tx len (m_nu tx lo hi (x_next tx len S))))).1 = S.1) ∧ x_do tx len j S = if (x_nx tx len (m_nu tx lo2 hi2 (x_nx tx len (m_nu tx lo hi (x_next tx len S))))).2.2.2.2.1 = 59 then x_exec j (x_arg tx len (x_k1 j) S).1 (x_arg tx len (x_k2 j) (x_arg tx len (x_k1 j) S).2).1 (x_nx tx len (m_nu tx lo2 hi2 (x_nx tx len (m_nu tx lo hi (x_next tx len S))))) else (false, x_fail (x_nx tx len (m_nu tx lo2 hi2 (x_nx tx len (m_nu tx lo hi (x_next tx len S))))) 1)) := by
  unfold x_do
  rcases m_arg k1 e hlo hg with ⟨a1, a2, a3⟩ | ⟨a1, a2, a3, a4⟩
  · rw [a2, x_nx_n a3, show m_nu tx lo2 hi2 (x_arg tx len (x_k1 j) S).2 = (x_arg tx len (x_k1 j) S).2 from m_nu_0 (fun z => absurd z a3), x_nx_n a3]
    exact Or.inl ⟨a3, if_pos a1⟩
  · have hg1 : (x_next tx len S).2.1 = 0 := hg
    rw [a2, a3, x_nx_y hg1, if_neg a1]
    rcases m_arg k2 (e2 (x_next tx len S)) hlo2 hg1 with ⟨b1, b2, b3⟩ | ⟨b1, b2, b3, b4⟩
    · rw [b2, x_nx_n b3]
      exact Or.inl ⟨b3, if_pos b1⟩
    · have hg2 : (x_next tx len (x_next tx len S)).2.1 = 0 := hg
      rw [b2, b3, x_nx_y hg2, if_neg b1]
      exact Or.inr ⟨hg, ⟨a1, a4, b1, b4, rfl, rfl⟩, rfl⟩
theorem m_fin {Y : x_S} {X E : Bool × x_S} {Q : Prop} {b : Bool} (p : (¬ Y.2.1 = 0 ∧ X = (false, Y)) ∨ (Y.2.1 = 0 ∧ Q ∧ X = if Y.2.2.2.2.1 = 59 then E else (false, x_fail Y 1))) :
    (¬ (m_en b Y).2.1 = 0 → X.2 = m_en b Y ∨ (b = false ∧ Y.2.1 = 0 ∧ Q ∧ X = E ∧ m_en b Y = x_fail Y 3)) ∧ ((m_en b Y).2.1 = 0 → b = true ∧ Q ∧ m_en b Y = Y ∧ X = E) := by
  rcases p with ⟨p1, p2⟩ | ⟨p1, p2, p3⟩
  · have e : m_en b Y = Y := if_neg p1
    rw [e, p2]
    exact ⟨fun _ => Or.inl rfl, fun z => absurd z p1⟩
  · by_cases h : Y.2.2.2.2.1 = 59
    · rw [if_pos h] at p3
      cases b with
      | true =>
        have e : m_en true Y = Y := (if_pos p1).trans ((if_pos h).trans (if_pos rfl))
        rw [e]
        exact ⟨fun z => absurd p1 z, fun _ => ⟨rfl, p2, rfl, p3⟩⟩
      | false =>
        have e : m_en false Y = x_fail Y 3 := (if_pos p1).trans ((if_pos h).trans (if_neg (by decide)))
        rw [e]
        exact ⟨fun _ => Or.inr ⟨rfl, p1, p2, p3, rfl⟩, fun z => absurd z (show ¬ (3 : Int32) = 0 by decide)⟩
    · rw [if_neg h] at p3
      have e : m_en b Y = x_fail Y 1 := (if_pos p1).trans (if_neg h)
      rw [e, p3]
      exact ⟨fun _ => Or.inl rfl, fun z => absurd z (show ¬ (1 : Int32) = 0 by decide)⟩
theorem x_exec0_f {v1 v2 : Int32} {S : x_S} (h : ¬ x_cn S.1 < 14) : x_exec 0 v1 v2 S = (false, x_fail S 3) := if_neg h
theorem x_exec0_t {v1 v2 : Int32} {S : x_S} (h : x_cn S.1 < 14) : x_exec 0 v1 v2 S = (true, (d_add S.1 (x_cn S.1) v1 v2, S.2)) := if_pos h
theorem m_ss.act {h1 : s_H} {m len dp cnt cp : Nat} {I0 sn tm rp tx I w1 : Nat → Int32} {P : Nat → Nat → Int32} {Y : x_S} {σ1 : s_D} (hP1 : m_pl h1 m I w1 sn P tm rp) (hfr : ∀ k, k < 15 ∨ 22 < k → I k = I0 k) (h21 : I 21 = Y.2.1) (h22 : I 22 = Y.2.2.1) (htk : Y.2.1 = 0 → m_tkn I tx len dp Y) (hd : d_ok σ1 cnt cp ∧ d_eq cnt (m_D w1) σ1) : m_ss h1 m I0 sn P tm rp tx len dp (σ1, Y.2) := ⟨I, w1, hP1, hfr, h21, h22, ⟨cnt, cp, hd⟩, htk⟩

theorem c_one1 {h : s_H} {n m len dp : Nat} {I0 sn tm rp tx : Nat → Int32} {P : Nat → Nat → Int32} {S : x_S} (hw : m_ss h m I0 sn P tm rp tx len dp S) (hK : m_kx I0 tm tx len) (hn : m + 21 ≤ n) (hg : S.2.1 = 0) (hW : ∀ i, i < 12 → (decide (S.2.1 = 0) && x_is tx S.2.2.2.1 S.2.2.2.2.1 S.2.2.2.2.2.1 i) = decide (i = 3)) : s_Mt TX9_oneCommand 0 0 [.ref m] h n (s_rp n (fun v9 h1 => v9 = none ∧ m_ss h1 m I0 sn P tm rp tx len dp (x_do tx len 1 S).2 ∧ m_of h h1 m) s_no) := by
  obtain ⟨I, w, hP, hfr, h21, h22, hD, htk⟩ := id hw
  have hm := hP.1.1
  have hx := hP.2.2.2.2.2.1
  have hoff : m_of h h m := m_of.rf
  have hpre := m_pre1 (tx := tx) (len := len) (j := 1) (S := S) (lo := 0) (hi := (nI (x_cn S.1) - 1)) (by decide) (by decide) rfl (by decide) hg
  refine s_Mt_of rfl (by decide) (by exact Nat.le_of_ble_eq_true rfl) ?_
  refine g_aload_n dX9_oneCommand_0 rfl (by rfl) ?_
  refine g_callV_e (c_stateHere hw hK hn hW) dX9_oneCommand_1 (mX9_stateHere) rfl lX9_242 iX9_stateHere vX9_stateHere (by decide) (by omega) (by exact hm) rfl rfl rfl rfl (Nat.le_of_ble_eq_true rfl) ?_
  refine g_istore_n dX9_oneCommand_4 rfl (by decide) ?_
  refine g_iload_n dX9_oneCommand_5 rfl (by rfl) ?_
  refine g_iconst (-1) dX9_oneCommand_6 (by rfl) ?_
  refine g_icmp_eq (tgt := 37) dX9_oneCommand_7 (by decide) (fun c_7 => absurd c_7 (by decide)) (fun _ => ?_)
  refine g_aload_n dX9_oneCommand_10 rfl (by rfl) ?_
  refine g_callV_p (c_scan (hw.s0 hg) hK hn) dX9_oneCommand_11 (mX9_scan) rfl lX9_202 iX9_scan vX9_scan (by decide) (by omega) (by exact hm) rfl rfl rfl rfl (Nat.le_of_ble_eq_true rfl) (fun v9 h9 z9 => ?_)
  obtain ⟨rfl, hw, qoff⟩ := z9
  have hoff := hoff.trans qoff
  obtain ⟨I, w, hP, hfr, h21, h22, hD, htk⟩ := id hw
  have hm := hP.1.1
  have hx := hP.2.2.2.2.2.1
  have hg1 : (x_next tx len S).2.1 = 0 := hg
  refine g_aload_n dX9_oneCommand_14 rfl (by rfl) ?_
  refine g_callV_p (c_anItem hw hK hn) dX9_oneCommand_15 (mX9_anItem) rfl lX9_268 iX9_anItem vX9_anItem (by decide) (by omega) (by exact hm) rfl rfl rfl rfl (Nat.le_of_ble_eq_true rfl) (fun v9 h9 z9 => ?_)
  obtain ⟨rfl, hw, qoff⟩ := z9
  generalize hv_v1 : m_nv _ _ _ _ = v1
  have hoff := hoff.trans qoff
  have hw : m_ss h9 m I0 sn P tm rp tx len dp (x_nx tx len (m_nu tx 0 (nI (x_cn S.1) - 1) (x_next tx len S))) := hw
  obtain ⟨I, w, hP, hfr, h21, h22, hD, htk⟩ := id hw
  have hm := hP.1.1
  have hx := hP.2.2.2.2.2.1
  refine g_istore_n dX9_oneCommand_18 rfl (by decide) ?_
  refine g_aload_n dX9_oneCommand_19 rfl (by rfl) ?_
  refine g_iconst (x_bi true) dX9_oneCommand_20 (by rfl) ?_
  refine g_callV_p (c_ends hw hK hn true) dX9_oneCommand_21 (mX9_ends) rfl lX9_226 iX9_ends vX9_ends (by decide) (by omega) (by exact hm) rfl rfl rfl rfl (Nat.le_of_ble_eq_true rfl) (fun v9 h9 z9 => ?_)
  obtain ⟨rfl, hw, qoff⟩ := z9
  have hoff := hoff.trans qoff
  obtain ⟨I, w, hP, hfr, h21, h22, hD, htk⟩ := id hw
  have hm := hP.1.1
  have hx := hP.2.2.2.2.2.1
  refine g_if_eq (tgt := 34) dX9_oneCommand_24 (by decide) (fun c_24 => ?_) (fun c_24 => ?_)
  · have hno : ¬ (m_en true (x_nx tx len (m_nu tx 0 (nI (x_cn S.1) - 1) (x_next tx len S)))).2.1 = 0 := fun z => by rw [if_pos z] at c_24; exact absurd c_24 (by decide)
    refine g_goto (tgt := 296) dX9_oneCommand_34 (by decide) ?_
    refine g_vreturn dX9_oneCommand_296 rfl ?_
    first | (refine ⟨rfl, rfl, ?_, hoff⟩; (rw [(((m_fin (b := true) hpre).1 hno).resolve_right (fun z => absurd z.1 (by decide)))]; exact hw)) | (refine ⟨rfl, rfl, ?_, hoff⟩; (rw [hX, show x_arg tx len (x_k1 1) S = x_arg tx len 1 S from rfl, ei, show (x_exec 1 (nI i) 0 (x_nx tx len (m_nu tx 0 (nI (x_cn S.1) - 1) (x_next tx len S)))).2 = (d_put (x_nx tx len (m_nu tx 0 (nI (x_cn S.1) - 1) (x_next tx len S))).1 3 (nI i).toNatClampNeg 1, (x_nx tx len (m_nu tx 0 (nI (x_cn S.1) - 1) (x_next tx len S))).2) from rfl, nI_clamp (by omega)]; exact m_ss.act (σ1 := (d_put _ 3 i 1)) hP hfr h21 h22 htk ⟨ok.put3 (st := 1) (by omega), (m_D_put (by omega)).tr (he.put (by omega))⟩))
  · have hyes : (m_en true (x_nx tx len (m_nu tx 0 (nI (x_cn S.1) - 1) (x_next tx len S)))).2.1 = 0 := Classical.byContradiction fun z => c_24 (if_neg z)
    obtain ⟨-, ⟨hA, hV, hY1⟩, e9, hX⟩ := (m_fin (b := true) hpre).2 hyes
    rw [e9] at hw hD htk h21 h22
    obtain ⟨cnt, cp, ok, he⟩ := hD
    have okm := he.sy.ok ok
    have hM := hP.1
    have hw := hM.2
    have hc := okm.1
    have h14 := ok.2.1
    have hT := hP.2.2.2.2.2.2.2
    obtain ⟨i, ei, hi⟩ := x_arg_1 (tx := tx) (len := len) (S := S) (by rw [← hY1]; exact ok) hA
    obtain rfl : v1 = nI i := hv_v1.symm.trans (hV.trans ei)
    refine g_aload_n dX9_oneCommand_27 rfl (by rfl) ?_
    refine g_iload_n dX9_oneCommand_28 rfl (by rfl) ?_
    refine g_iconst (nI 3) dX9_oneCommand_29 (by rfl) ?_
    refine g_iload_n dX9_oneCommand_30 rfl (by rfl) ?_
    refine g_callV_p (c_X9_put hM hn i 3 (by omega) (m_sth 3)) dX9_oneCommand_31 (mX9_put) rfl lX9_55 iX9_put vX9_put (by decide) (by omega) (by exact hm) rfl rfl rfl rfl (Nat.le_of_ble_eq_true rfl) (fun v9 h9 z9 => ?_)
    obtain ⟨rfl, hM, qoff⟩ := z9
    have hT := hT.off qoff (by omega)
    have hP := hP.q (qoff.wide (a' := m) (b' := m + 2) (by omega) (by omega)).l2 hM hT
    have hoff := hoff.w qoff (by omega)
    have hm := hM.1
    have hw := hM.2
    refine g_goto (tgt := 296) dX9_oneCommand_34 (by decide) ?_
    refine g_vreturn dX9_oneCommand_296 rfl ?_
    first | (refine ⟨rfl, rfl, ?_, hoff⟩; (rw [(((m_fin (b := true) hpre).1 hno).resolve_right (fun z => absurd z.1 (by decide)))]; exact hw)) | (refine ⟨rfl, rfl, ?_, hoff⟩; (rw [hX, show x_arg tx len (x_k1 1) S = x_arg tx len 1 S from rfl, ei, show (x_exec 1 (nI i) 0 (x_nx tx len (m_nu tx 0 (nI (x_cn S.1) - 1) (x_next tx len S)))).2 = (d_put (x_nx tx len (m_nu tx 0 (nI (x_cn S.1) - 1) (x_next tx len S))).1 3 (nI i).toNatClampNeg 1, (x_nx tx len (m_nu tx 0 (nI (x_cn S.1) - 1) (x_next tx len S))).2) from rfl, nI_clamp (by omega)]; exact m_ss.act (σ1 := (d_put _ 3 i 1)) hP hfr h21 h22 htk ⟨ok.put3 (st := 1) (by omega), (m_D_put (by omega)).tr (he.put (by omega))⟩))

theorem c_one2 {h : s_H} {n m len dp : Nat} {I0 sn tm rp tx : Nat → Int32} {P : Nat → Nat → Int32} {S : x_S} (hw : m_ss h m I0 sn P tm rp tx len dp S) (hK : m_kx I0 tm tx len) (hn : m + 21 ≤ n) (hg : S.2.1 = 0) (hW : ∀ i, i < 12 → (decide (S.2.1 = 0) && x_is tx S.2.2.2.1 S.2.2.2.2.1 S.2.2.2.2.2.1 i) = decide (i = 4)) : s_Mt TX9_oneCommand 0 0 [.ref m] h n (s_rp n (fun v9 h1 => v9 = none ∧ m_ss h1 m I0 sn P tm rp tx len dp (x_do tx len 2 S).2 ∧ m_of h h1 m) s_no) := by
  obtain ⟨I, w, hP, hfr, h21, h22, hD, htk⟩ := id hw
  have hm := hP.1.1
  have hx := hP.2.2.2.2.2.1
  have hoff : m_of h h m := m_of.rf
  have hpre := m_pre1 (tx := tx) (len := len) (j := 2) (S := S) (lo := 0) (hi := (nI (x_cn S.1) - 1)) (by decide) (by decide) rfl (by decide) hg
  refine s_Mt_of rfl (by decide) (by exact Nat.le_of_ble_eq_true rfl) ?_
  refine g_aload_n dX9_oneCommand_0 rfl (by rfl) ?_
  refine g_callV_e (c_stateHere hw hK hn hW) dX9_oneCommand_1 (mX9_stateHere) rfl lX9_242 iX9_stateHere vX9_stateHere (by decide) (by omega) (by exact hm) rfl rfl rfl rfl (Nat.le_of_ble_eq_true rfl) ?_
  refine g_istore_n dX9_oneCommand_4 rfl (by decide) ?_
  refine g_iload_n dX9_oneCommand_5 rfl (by rfl) ?_
  refine g_iconst (-1) dX9_oneCommand_6 (by rfl) ?_
  refine g_icmp_eq (tgt := 37) dX9_oneCommand_7 (by decide) (fun c_7 => absurd c_7 (by decide)) (fun _ => ?_)
  refine g_aload_n dX9_oneCommand_10 rfl (by rfl) ?_
  refine g_callV_p (c_scan (hw.s0 hg) hK hn) dX9_oneCommand_11 (mX9_scan) rfl lX9_202 iX9_scan vX9_scan (by decide) (by omega) (by exact hm) rfl rfl rfl rfl (Nat.le_of_ble_eq_true rfl) (fun v9 h9 z9 => ?_)
  obtain ⟨rfl, hw, qoff⟩ := z9
  have hoff := hoff.trans qoff
  obtain ⟨I, w, hP, hfr, h21, h22, hD, htk⟩ := id hw
  have hm := hP.1.1
  have hx := hP.2.2.2.2.2.1
  have hg1 : (x_next tx len S).2.1 = 0 := hg
  refine g_aload_n dX9_oneCommand_14 rfl (by rfl) ?_
  refine g_callV_p (c_anItem hw hK hn) dX9_oneCommand_15 (mX9_anItem) rfl lX9_268 iX9_anItem vX9_anItem (by decide) (by omega) (by exact hm) rfl rfl rfl rfl (Nat.le_of_ble_eq_true rfl) (fun v9 h9 z9 => ?_)
  obtain ⟨rfl, hw, qoff⟩ := z9
  generalize hv_v1 : m_nv _ _ _ _ = v1
  have hoff := hoff.trans qoff
  have hw : m_ss h9 m I0 sn P tm rp tx len dp (x_nx tx len (m_nu tx 0 (nI (x_cn S.1) - 1) (x_next tx len S))) := hw
  obtain ⟨I, w, hP, hfr, h21, h22, hD, htk⟩ := id hw
  have hm := hP.1.1
  have hx := hP.2.2.2.2.2.1
  refine g_istore_n dX9_oneCommand_18 rfl (by decide) ?_
  refine g_aload_n dX9_oneCommand_19 rfl (by rfl) ?_
  refine g_iconst (x_bi true) dX9_oneCommand_20 (by rfl) ?_
  refine g_callV_p (c_ends hw hK hn true) dX9_oneCommand_21 (mX9_ends) rfl lX9_226 iX9_ends vX9_ends (by decide) (by omega) (by exact hm) rfl rfl rfl rfl (Nat.le_of_ble_eq_true rfl) (fun v9 h9 z9 => ?_)
  obtain ⟨rfl, hw, qoff⟩ := z9
  have hoff := hoff.trans qoff
  obtain ⟨I, w, hP, hfr, h21, h22, hD, htk⟩ := id hw
  have hm := hP.1.1
  have hx := hP.2.2.2.2.2.1
  refine g_if_eq (tgt := 34) dX9_oneCommand_24 (by decide) (fun c_24 => ?_) (fun c_24 => ?_)
  · have hno : ¬ (m_en true (x_nx tx len (m_nu tx 0 (nI (x_cn S.1) - 1) (x_next tx len S)))).2.1 = 0 := fun z => by rw [if_pos z] at c_24; exact absurd c_24 (by decide)
    refine g_goto (tgt := 296) dX9_oneCommand_34 (by decide) ?_
    refine g_vreturn dX9_oneCommand_296 rfl ?_
    first | (refine ⟨rfl, rfl, ?_, hoff⟩; (rw [(((m_fin (b := true) hpre).1 hno).resolve_right (fun z => absurd z.1 (by decide)))]; exact hw)) | (refine ⟨rfl, rfl, ?_, hoff⟩; (rw [hX, show x_arg tx len (x_k1 2) S = x_arg tx len 1 S from rfl, ei, show (x_exec 2 (nI i) 0 (x_nx tx len (m_nu tx 0 (nI (x_cn S.1) - 1) (x_next tx len S)))).2 = (d_put (x_nx tx len (m_nu tx 0 (nI (x_cn S.1) - 1) (x_next tx len S))).1 3 (nI i).toNatClampNeg 2, (x_nx tx len (m_nu tx 0 (nI (x_cn S.1) - 1) (x_next tx len S))).2) from rfl, nI_clamp (by omega)]; exact m_ss.act (σ1 := (d_put _ 3 i 2)) hP hfr h21 h22 htk ⟨ok.put3 (st := 2) (by omega), (m_D_put (by omega)).tr (he.put (by omega))⟩))
  · have hyes : (m_en true (x_nx tx len (m_nu tx 0 (nI (x_cn S.1) - 1) (x_next tx len S)))).2.1 = 0 := Classical.byContradiction fun z => c_24 (if_neg z)
    obtain ⟨-, ⟨hA, hV, hY1⟩, e9, hX⟩ := (m_fin (b := true) hpre).2 hyes
    rw [e9] at hw hD htk h21 h22
    obtain ⟨cnt, cp, ok, he⟩ := hD
    have okm := he.sy.ok ok
    have hM := hP.1
    have hw := hM.2
    have hc := okm.1
    have h14 := ok.2.1
    have hT := hP.2.2.2.2.2.2.2
    obtain ⟨i, ei, hi⟩ := x_arg_1 (tx := tx) (len := len) (S := S) (by rw [← hY1]; exact ok) hA
    obtain rfl : v1 = nI i := hv_v1.symm.trans (hV.trans ei)
    refine g_aload_n dX9_oneCommand_27 rfl (by rfl) ?_
    refine g_iload_n dX9_oneCommand_28 rfl (by rfl) ?_
    refine g_iconst (nI 3) dX9_oneCommand_29 (by rfl) ?_
    refine g_iload_n dX9_oneCommand_30 rfl (by rfl) ?_
    refine g_callV_p (c_X9_put hM hn i 3 (by omega) (m_sth 4)) dX9_oneCommand_31 (mX9_put) rfl lX9_55 iX9_put vX9_put (by decide) (by omega) (by exact hm) rfl rfl rfl rfl (Nat.le_of_ble_eq_true rfl) (fun v9 h9 z9 => ?_)
    obtain ⟨rfl, hM, qoff⟩ := z9
    have hT := hT.off qoff (by omega)
    have hP := hP.q (qoff.wide (a' := m) (b' := m + 2) (by omega) (by omega)).l2 hM hT
    have hoff := hoff.w qoff (by omega)
    have hm := hM.1
    have hw := hM.2
    refine g_goto (tgt := 296) dX9_oneCommand_34 (by decide) ?_
    refine g_vreturn dX9_oneCommand_296 rfl ?_
    first | (refine ⟨rfl, rfl, ?_, hoff⟩; (rw [(((m_fin (b := true) hpre).1 hno).resolve_right (fun z => absurd z.1 (by decide)))]; exact hw)) | (refine ⟨rfl, rfl, ?_, hoff⟩; (rw [hX, show x_arg tx len (x_k1 2) S = x_arg tx len 1 S from rfl, ei, show (x_exec 2 (nI i) 0 (x_nx tx len (m_nu tx 0 (nI (x_cn S.1) - 1) (x_next tx len S)))).2 = (d_put (x_nx tx len (m_nu tx 0 (nI (x_cn S.1) - 1) (x_next tx len S))).1 3 (nI i).toNatClampNeg 2, (x_nx tx len (m_nu tx 0 (nI (x_cn S.1) - 1) (x_next tx len S))).2) from rfl, nI_clamp (by omega)]; exact m_ss.act (σ1 := (d_put _ 3 i 2)) hP hfr h21 h22 htk ⟨ok.put3 (st := 2) (by omega), (m_D_put (by omega)).tr (he.put (by omega))⟩))

theorem c_one3 {h : s_H} {n m len dp : Nat} {I0 sn tm rp tx : Nat → Int32} {P : Nat → Nat → Int32} {S : x_S} (hw : m_ss h m I0 sn P tm rp tx len dp S) (hK : m_kx I0 tm tx len) (hn : m + 21 ≤ n) (hg : S.2.1 = 0) (hW : ∀ i, i < 12 → (decide (S.2.1 = 0) && x_is tx S.2.2.2.1 S.2.2.2.2.1 S.2.2.2.2.2.1 i) = decide (i = 5)) : s_Mt TX9_oneCommand 0 0 [.ref m] h n (s_rp n (fun v9 h1 => v9 = none ∧ m_ss h1 m I0 sn P tm rp tx len dp (x_do tx len 3 S).2 ∧ m_of h h1 m) s_no) := by
  obtain ⟨I, w, hP, hfr, h21, h22, hD, htk⟩ := id hw
  have hm := hP.1.1
  have hx := hP.2.2.2.2.2.1
  have hoff : m_of h h m := m_of.rf
  have hpre := m_pre1 (tx := tx) (len := len) (j := 3) (S := S) (lo := 0) (hi := (nI (x_cn S.1) - 1)) (by decide) (by decide) rfl (by decide) hg
  refine s_Mt_of rfl (by decide) (by exact Nat.le_of_ble_eq_true rfl) ?_
  refine g_aload_n dX9_oneCommand_0 rfl (by rfl) ?_
  refine g_callV_e (c_stateHere hw hK hn hW) dX9_oneCommand_1 (mX9_stateHere) rfl lX9_242 iX9_stateHere vX9_stateHere (by decide) (by omega) (by exact hm) rfl rfl rfl rfl (Nat.le_of_ble_eq_true rfl) ?_
  refine g_istore_n dX9_oneCommand_4 rfl (by decide) ?_
  refine g_iload_n dX9_oneCommand_5 rfl (by rfl) ?_
  refine g_iconst (-1) dX9_oneCommand_6 (by rfl) ?_
  refine g_icmp_eq (tgt := 37) dX9_oneCommand_7 (by decide) (fun c_7 => absurd c_7 (by decide)) (fun _ => ?_)
  refine g_aload_n dX9_oneCommand_10 rfl (by rfl) ?_
  refine g_callV_p (c_scan (hw.s0 hg) hK hn) dX9_oneCommand_11 (mX9_scan) rfl lX9_202 iX9_scan vX9_scan (by decide) (by omega) (by exact hm) rfl rfl rfl rfl (Nat.le_of_ble_eq_true rfl) (fun v9 h9 z9 => ?_)
  obtain ⟨rfl, hw, qoff⟩ := z9
  have hoff := hoff.trans qoff
  obtain ⟨I, w, hP, hfr, h21, h22, hD, htk⟩ := id hw
  have hm := hP.1.1
  have hx := hP.2.2.2.2.2.1
  have hg1 : (x_next tx len S).2.1 = 0 := hg
  refine g_aload_n dX9_oneCommand_14 rfl (by rfl) ?_
  refine g_callV_p (c_anItem hw hK hn) dX9_oneCommand_15 (mX9_anItem) rfl lX9_268 iX9_anItem vX9_anItem (by decide) (by omega) (by exact hm) rfl rfl rfl rfl (Nat.le_of_ble_eq_true rfl) (fun v9 h9 z9 => ?_)
  obtain ⟨rfl, hw, qoff⟩ := z9
  generalize hv_v1 : m_nv _ _ _ _ = v1
  have hoff := hoff.trans qoff
  have hw : m_ss h9 m I0 sn P tm rp tx len dp (x_nx tx len (m_nu tx 0 (nI (x_cn S.1) - 1) (x_next tx len S))) := hw
  obtain ⟨I, w, hP, hfr, h21, h22, hD, htk⟩ := id hw
  have hm := hP.1.1
  have hx := hP.2.2.2.2.2.1
  refine g_istore_n dX9_oneCommand_18 rfl (by decide) ?_
  refine g_aload_n dX9_oneCommand_19 rfl (by rfl) ?_
  refine g_iconst (x_bi true) dX9_oneCommand_20 (by rfl) ?_
  refine g_callV_p (c_ends hw hK hn true) dX9_oneCommand_21 (mX9_ends) rfl lX9_226 iX9_ends vX9_ends (by decide) (by omega) (by exact hm) rfl rfl rfl rfl (Nat.le_of_ble_eq_true rfl) (fun v9 h9 z9 => ?_)
  obtain ⟨rfl, hw, qoff⟩ := z9
  have hoff := hoff.trans qoff
  obtain ⟨I, w, hP, hfr, h21, h22, hD, htk⟩ := id hw
  have hm := hP.1.1
  have hx := hP.2.2.2.2.2.1
  refine g_if_eq (tgt := 34) dX9_oneCommand_24 (by decide) (fun c_24 => ?_) (fun c_24 => ?_)
  · have hno : ¬ (m_en true (x_nx tx len (m_nu tx 0 (nI (x_cn S.1) - 1) (x_next tx len S)))).2.1 = 0 := fun z => by rw [if_pos z] at c_24; exact absurd c_24 (by decide)
    refine g_goto (tgt := 296) dX9_oneCommand_34 (by decide) ?_
    refine g_vreturn dX9_oneCommand_296 rfl ?_
    first | (refine ⟨rfl, rfl, ?_, hoff⟩; (rw [(((m_fin (b := true) hpre).1 hno).resolve_right (fun z => absurd z.1 (by decide)))]; exact hw)) | (refine ⟨rfl, rfl, ?_, hoff⟩; (rw [hX, show x_arg tx len (x_k1 3) S = x_arg tx len 1 S from rfl, ei, show (x_exec 3 (nI i) 0 (x_nx tx len (m_nu tx 0 (nI (x_cn S.1) - 1) (x_next tx len S)))).2 = (d_put (x_nx tx len (m_nu tx 0 (nI (x_cn S.1) - 1) (x_next tx len S))).1 3 (nI i).toNatClampNeg 0, (x_nx tx len (m_nu tx 0 (nI (x_cn S.1) - 1) (x_next tx len S))).2) from rfl, nI_clamp (by omega)]; exact m_ss.act (σ1 := (d_put _ 3 i 0)) hP hfr h21 h22 htk ⟨ok.put3 (st := 0) (by omega), (m_D_put (by omega)).tr (he.put (by omega))⟩))
  · have hyes : (m_en true (x_nx tx len (m_nu tx 0 (nI (x_cn S.1) - 1) (x_next tx len S)))).2.1 = 0 := Classical.byContradiction fun z => c_24 (if_neg z)
    obtain ⟨-, ⟨hA, hV, hY1⟩, e9, hX⟩ := (m_fin (b := true) hpre).2 hyes
    rw [e9] at hw hD htk h21 h22
    obtain ⟨cnt, cp, ok, he⟩ := hD
    have okm := he.sy.ok ok
    have hM := hP.1
    have hw := hM.2
    have hc := okm.1
    have h14 := ok.2.1
    have hT := hP.2.2.2.2.2.2.2
    obtain ⟨i, ei, hi⟩ := x_arg_1 (tx := tx) (len := len) (S := S) (by rw [← hY1]; exact ok) hA
    obtain rfl : v1 = nI i := hv_v1.symm.trans (hV.trans ei)
    refine g_aload_n dX9_oneCommand_27 rfl (by rfl) ?_
    refine g_iload_n dX9_oneCommand_28 rfl (by rfl) ?_
    refine g_iconst (nI 3) dX9_oneCommand_29 (by rfl) ?_
    refine g_iload_n dX9_oneCommand_30 rfl (by rfl) ?_
    refine g_callV_p (c_X9_put hM hn i 3 (by omega) (m_sth 5)) dX9_oneCommand_31 (mX9_put) rfl lX9_55 iX9_put vX9_put (by decide) (by omega) (by exact hm) rfl rfl rfl rfl (Nat.le_of_ble_eq_true rfl) (fun v9 h9 z9 => ?_)
    obtain ⟨rfl, hM, qoff⟩ := z9
    have hT := hT.off qoff (by omega)
    have hP := hP.q (qoff.wide (a' := m) (b' := m + 2) (by omega) (by omega)).l2 hM hT
    have hoff := hoff.w qoff (by omega)
    have hm := hM.1
    have hw := hM.2
    refine g_goto (tgt := 296) dX9_oneCommand_34 (by decide) ?_
    refine g_vreturn dX9_oneCommand_296 rfl ?_
    first | (refine ⟨rfl, rfl, ?_, hoff⟩; (rw [(((m_fin (b := true) hpre).1 hno).resolve_right (fun z => absurd z.1 (by decide)))]; exact hw)) | (refine ⟨rfl, rfl, ?_, hoff⟩; (rw [hX, show x_arg tx len (x_k1 3) S = x_arg tx len 1 S from rfl, ei, show (x_exec 3 (nI i) 0 (x_nx tx len (m_nu tx 0 (nI (x_cn S.1) - 1) (x_next tx len S)))).2 = (d_put (x_nx tx len (m_nu tx 0 (nI (x_cn S.1) - 1) (x_next tx len S))).1 3 (nI i).toNatClampNeg 0, (x_nx tx len (m_nu tx 0 (nI (x_cn S.1) - 1) (x_next tx len S))).2) from rfl, nI_clamp (by omega)]; exact m_ss.act (σ1 := (d_put _ 3 i 0)) hP hfr h21 h22 htk ⟨ok.put3 (st := 0) (by omega), (m_D_put (by omega)).tr (he.put (by omega))⟩))

theorem c_one4 {h : s_H} {n m len dp : Nat} {I0 sn tm rp tx : Nat → Int32} {P : Nat → Nat → Int32} {S : x_S} (hw : m_ss h m I0 sn P tm rp tx len dp S) (hK : m_kx I0 tm tx len) (hn : m + 21 ≤ n) (hg : S.2.1 = 0) (hW : ∀ i, i < 12 → (decide (S.2.1 = 0) && x_is tx S.2.2.2.1 S.2.2.2.2.1 S.2.2.2.2.2.1 i) = decide (i = 6)) : s_Mt TX9_oneCommand 0 0 [.ref m] h n (s_rp n (fun v9 h1 => v9 = none ∧ m_ss h1 m I0 sn P tm rp tx len dp (x_do tx len 4 S).2 ∧ m_of h h1 m) s_no) := by
  obtain ⟨I, w, hP, hfr, h21, h22, hD, htk⟩ := id hw
  have hm := hP.1.1
  have hx := hP.2.2.2.2.2.1
  have hoff : m_of h h m := m_of.rf
  have hpre := m_pre1 (tx := tx) (len := len) (j := 4) (S := S) (lo := 0) (hi := (nI (x_cn S.1) - 1)) (by decide) (by decide) rfl (by decide) hg
  refine s_Mt_of rfl (by decide) (by exact Nat.le_of_ble_eq_true rfl) ?_
  refine g_aload_n dX9_oneCommand_0 rfl (by rfl) ?_
  refine g_callV_e (c_stateHere hw hK hn hW) dX9_oneCommand_1 (mX9_stateHere) rfl lX9_242 iX9_stateHere vX9_stateHere (by decide) (by omega) (by exact hm) rfl rfl rfl rfl (Nat.le_of_ble_eq_true rfl) ?_
  refine g_istore_n dX9_oneCommand_4 rfl (by decide) ?_
  refine g_iload_n dX9_oneCommand_5 rfl (by rfl) ?_
  refine g_iconst (-1) dX9_oneCommand_6 (by rfl) ?_
  refine g_icmp_eq (tgt := 37) dX9_oneCommand_7 (by decide) (fun _ => ?_) (fun c_7 => absurd rfl c_7)
  refine g_aload_n dX9_oneCommand_37 rfl (by rfl) ?_
  refine g_kstr (i := 2) (text := "item") (show ("BackupPlannerModel", 245, "item", 2) ∈ s_str by decide) dX9_oneCommand_38 ?_
  refine g_callV_e (c_X9_isWord hw hK hn (i := 2) (by decide)) dX9_oneCommand_40 (mX9_isWord) rfl lX9_222 iX9_isWord vX9_isWord (by decide) (by omega) (by exact hm) rfl rfl rfl rfl (Nat.le_of_ble_eq_true rfl) ?_
  rw [hW 2 (by decide)]
  refine g_if_eq (tgt := 101) dX9_oneCommand_43 (by decide) (fun _ => ?_) (fun c_43 => absurd rfl c_43)
  refine g_aload_n dX9_oneCommand_101 rfl (by rfl) ?_
  refine g_kstr (i := 6) (text := "remove") (show ("BackupPlannerModel", 247, "remove", 6) ∈ s_str by decide) dX9_oneCommand_102 ?_
  refine g_callV_e (c_X9_isWord hw hK hn (i := 6) (by decide)) dX9_oneCommand_104 (mX9_isWord) rfl lX9_222 iX9_isWord vX9_isWord (by decide) (by omega) (by exact hm) rfl rfl rfl rfl (Nat.le_of_ble_eq_true rfl) ?_
  rw [hW 6 (by decide)]
  refine g_if_eq (tgt := 135) dX9_oneCommand_107 (by decide) (fun c_107 => absurd c_107 (by decide)) (fun _ => ?_)
  refine g_aload_n dX9_oneCommand_110 rfl (by rfl) ?_
  refine g_callV_p (c_scan (hw.s0 hg) hK hn) dX9_oneCommand_111 (mX9_scan) rfl lX9_202 iX9_scan vX9_scan (by decide) (by omega) (by exact hm) rfl rfl rfl rfl (Nat.le_of_ble_eq_true rfl) (fun v9 h9 z9 => ?_)
  obtain ⟨rfl, hw, qoff⟩ := z9
  have hoff := hoff.trans qoff
  obtain ⟨I, w, hP, hfr, h21, h22, hD, htk⟩ := id hw
  have hm := hP.1.1
  have hx := hP.2.2.2.2.2.1
  have hg1 : (x_next tx len S).2.1 = 0 := hg
  refine g_aload_n dX9_oneCommand_114 rfl (by rfl) ?_
  refine g_callV_p (c_anItem hw hK hn) dX9_oneCommand_115 (mX9_anItem) rfl lX9_268 iX9_anItem vX9_anItem (by decide) (by omega) (by exact hm) rfl rfl rfl rfl (Nat.le_of_ble_eq_true rfl) (fun v9 h9 z9 => ?_)
  obtain ⟨rfl, hw, qoff⟩ := z9
  generalize hv_v1 : m_nv _ _ _ _ = v1
  have hoff := hoff.trans qoff
  have hw : m_ss h9 m I0 sn P tm rp tx len dp (x_nx tx len (m_nu tx 0 (nI (x_cn S.1) - 1) (x_next tx len S))) := hw
  obtain ⟨I, w, hP, hfr, h21, h22, hD, htk⟩ := id hw
  have hm := hP.1.1
  have hx := hP.2.2.2.2.2.1
  refine g_istore_n dX9_oneCommand_118 rfl (by decide) ?_
  refine g_aload_n dX9_oneCommand_119 rfl (by rfl) ?_
  refine g_iconst (x_bi true) dX9_oneCommand_120 (by rfl) ?_
  refine g_callV_p (c_ends hw hK hn true) dX9_oneCommand_121 (mX9_ends) rfl lX9_226 iX9_ends vX9_ends (by decide) (by omega) (by exact hm) rfl rfl rfl rfl (Nat.le_of_ble_eq_true rfl) (fun v9 h9 z9 => ?_)
  obtain ⟨rfl, hw, qoff⟩ := z9
  have hoff := hoff.trans qoff
  obtain ⟨I, w, hP, hfr, h21, h22, hD, htk⟩ := id hw
  have hm := hP.1.1
  have hx := hP.2.2.2.2.2.1
  refine g_if_eq (tgt := 132) dX9_oneCommand_124 (by decide) (fun c_124 => ?_) (fun c_124 => ?_)
  · have hno : ¬ (m_en true (x_nx tx len (m_nu tx 0 (nI (x_cn S.1) - 1) (x_next tx len S)))).2.1 = 0 := fun z => by rw [if_pos z] at c_124; exact absurd c_124 (by decide)
    refine g_goto (tgt := 296) dX9_oneCommand_132 (by decide) ?_
    refine g_vreturn dX9_oneCommand_296 rfl ?_
    first | (refine ⟨rfl, rfl, ?_, hoff⟩; (rw [(((m_fin (b := true) hpre).1 hno).resolve_right (fun z => absurd z.1 (by decide)))]; exact hw)) | (refine ⟨rfl, rfl, ?_, hoff⟩; (rw [hX, show x_arg tx len (x_k1 4) S = x_arg tx len 1 S from rfl, ei, show (x_exec 4 (nI i) 0 (x_nx tx len (m_nu tx 0 (nI (x_cn S.1) - 1) (x_next tx len S)))).2 = (d_drop (x_nx tx len (m_nu tx 0 (nI (x_cn S.1) - 1) (x_next tx len S))).1 (nI i).toNatClampNeg (x_cn (x_nx tx len (m_nu tx 0 (nI (x_cn S.1) - 1) (x_next tx len S))).1), (x_nx tx len (m_nu tx 0 (nI (x_cn S.1) - 1) (x_next tx len S))).2) from rfl, nI_clamp (by omega), ok.cn]; exact m_ss.act (σ1 := (d_drop _ i (c + 1))) hP hfr h21 h22 htk ⟨ok.drop hi, (m_D_rem (by omega)).tr he.drop⟩))
  · have hyes : (m_en true (x_nx tx len (m_nu tx 0 (nI (x_cn S.1) - 1) (x_next tx len S)))).2.1 = 0 := Classical.byContradiction fun z => c_124 (if_neg z)
    obtain ⟨-, ⟨hA, hV, hY1⟩, e9, hX⟩ := (m_fin (b := true) hpre).2 hyes
    rw [e9] at hw hD htk h21 h22
    obtain ⟨cnt, cp, ok, he⟩ := hD
    have okm := he.sy.ok ok
    have hM := hP.1
    have hw := hM.2
    have hc := okm.1
    have h14 := ok.2.1
    have hT := hP.2.2.2.2.2.2.2
    obtain ⟨i, ei, hi⟩ := x_arg_1 (tx := tx) (len := len) (S := S) (by rw [← hY1]; exact ok) hA
    obtain rfl : v1 = nI i := hv_v1.symm.trans (hV.trans ei)
    obtain ⟨c, rfl⟩ : ∃ c, cnt = c + 1 := ⟨cnt - 1, by omega⟩
    refine g_aload_n dX9_oneCommand_127 rfl (by rfl) ?_
    refine g_iload_n dX9_oneCommand_128 rfl (by rfl) ?_
    refine g_callV_p (c_X9_remove hM hn (c := c) (item := i) hc (by omega) (by omega)) dX9_oneCommand_129 (mX9_remove) rfl lX9_138 iX9_remove vX9_remove (by decide) (by omega) (by exact hm) rfl rfl rfl rfl (Nat.le_of_ble_eq_true rfl) (fun v9 h9 z9 => ?_)
    obtain ⟨rfl, hM, qoff⟩ := z9
    have hT := hT.off qoff (by omega)
    have hP := hP.q (qoff.wide (a' := m) (b' := m + 2) (by omega) (by omega)).l2 hM hT
    have hoff := hoff.w qoff (by omega)
    have hm := hM.1
    have hw := hM.2
    refine g_goto (tgt := 296) dX9_oneCommand_132 (by decide) ?_
    refine g_vreturn dX9_oneCommand_296 rfl ?_
    first | (refine ⟨rfl, rfl, ?_, hoff⟩; (rw [(((m_fin (b := true) hpre).1 hno).resolve_right (fun z => absurd z.1 (by decide)))]; exact hw)) | (refine ⟨rfl, rfl, ?_, hoff⟩; (rw [hX, show x_arg tx len (x_k1 4) S = x_arg tx len 1 S from rfl, ei, show (x_exec 4 (nI i) 0 (x_nx tx len (m_nu tx 0 (nI (x_cn S.1) - 1) (x_next tx len S)))).2 = (d_drop (x_nx tx len (m_nu tx 0 (nI (x_cn S.1) - 1) (x_next tx len S))).1 (nI i).toNatClampNeg (x_cn (x_nx tx len (m_nu tx 0 (nI (x_cn S.1) - 1) (x_next tx len S))).1), (x_nx tx len (m_nu tx 0 (nI (x_cn S.1) - 1) (x_next tx len S))).2) from rfl, nI_clamp (by omega), ok.cn]; exact m_ss.act (σ1 := (d_drop _ i (c + 1))) hP hfr h21 h22 htk ⟨ok.drop hi, (m_D_rem (by omega)).tr he.drop⟩))

theorem c_one5 {h : s_H} {n m len dp : Nat} {I0 sn tm rp tx : Nat → Int32} {P : Nat → Nat → Int32} {S : x_S} (hw : m_ss h m I0 sn P tm rp tx len dp S) (hK : m_kx I0 tm tx len) (hn : m + 21 ≤ n) (hg : S.2.1 = 0) (hW : ∀ i, i < 12 → (decide (S.2.1 = 0) && x_is tx S.2.2.2.1 S.2.2.2.2.1 S.2.2.2.2.2.1 i) = decide (i = 7)) : s_Mt TX9_oneCommand 0 0 [.ref m] h n (s_rp n (fun v9 h1 => v9 = none ∧ m_ss h1 m I0 sn P tm rp tx len dp (x_do tx len 5 S).2 ∧ m_of h h1 m) s_no) := by
  obtain ⟨I, w, hP, hfr, h21, h22, hD, htk⟩ := id hw
  have hm := hP.1.1
  have hx := hP.2.2.2.2.2.1
  have hoff : m_of h h m := m_of.rf
  have hpre := m_pre1 (tx := tx) (len := len) (j := 5) (S := S) (lo := 0) (hi := 100) (by decide) (by decide) rfl (by decide) hg
  refine s_Mt_of rfl (by decide) (by exact Nat.le_of_ble_eq_true rfl) ?_
  refine g_aload_n dX9_oneCommand_0 rfl (by rfl) ?_
  refine g_callV_e (c_stateHere hw hK hn hW) dX9_oneCommand_1 (mX9_stateHere) rfl lX9_242 iX9_stateHere vX9_stateHere (by decide) (by omega) (by exact hm) rfl rfl rfl rfl (Nat.le_of_ble_eq_true rfl) ?_
  refine g_istore_n dX9_oneCommand_4 rfl (by decide) ?_
  refine g_iload_n dX9_oneCommand_5 rfl (by rfl) ?_
  refine g_iconst (-1) dX9_oneCommand_6 (by rfl) ?_
  refine g_icmp_eq (tgt := 37) dX9_oneCommand_7 (by decide) (fun _ => ?_) (fun c_7 => absurd rfl c_7)
  refine g_aload_n dX9_oneCommand_37 rfl (by rfl) ?_
  refine g_kstr (i := 2) (text := "item") (show ("BackupPlannerModel", 245, "item", 2) ∈ s_str by decide) dX9_oneCommand_38 ?_
  refine g_callV_e (c_X9_isWord hw hK hn (i := 2) (by decide)) dX9_oneCommand_40 (mX9_isWord) rfl lX9_222 iX9_isWord vX9_isWord (by decide) (by omega) (by exact hm) rfl rfl rfl rfl (Nat.le_of_ble_eq_true rfl) ?_
  rw [hW 2 (by decide)]
  refine g_if_eq (tgt := 101) dX9_oneCommand_43 (by decide) (fun _ => ?_) (fun c_43 => absurd rfl c_43)
  refine g_aload_n dX9_oneCommand_101 rfl (by rfl) ?_
  refine g_kstr (i := 6) (text := "remove") (show ("BackupPlannerModel", 247, "remove", 6) ∈ s_str by decide) dX9_oneCommand_102 ?_
  refine g_callV_e (c_X9_isWord hw hK hn (i := 6) (by decide)) dX9_oneCommand_104 (mX9_isWord) rfl lX9_222 iX9_isWord vX9_isWord (by decide) (by omega) (by exact hm) rfl rfl rfl rfl (Nat.le_of_ble_eq_true rfl) ?_
  rw [hW 6 (by decide)]
  refine g_if_eq (tgt := 135) dX9_oneCommand_107 (by decide) (fun _ => ?_) (fun c_107 => absurd rfl c_107)
  refine g_aload_n dX9_oneCommand_135 rfl (by rfl) ?_
  refine g_kstr (i := 7) (text := "capacity") (show ("BackupPlannerModel", 248, "capacity", 7) ∈ s_str by decide) dX9_oneCommand_136 ?_
  refine g_callV_e (c_X9_isWord hw hK hn (i := 7) (by decide)) dX9_oneCommand_138 (mX9_isWord) rfl lX9_222 iX9_isWord vX9_isWord (by decide) (by omega) (by exact hm) rfl rfl rfl rfl (Nat.le_of_ble_eq_true rfl) ?_
  rw [hW 7 (by decide)]
  refine g_if_eq (tgt := 174) dX9_oneCommand_141 (by decide) (fun c_141 => absurd c_141 (by decide)) (fun _ => ?_)
  refine g_aload_n dX9_oneCommand_144 rfl (by rfl) ?_
  refine g_callV_p (c_scan (hw.s0 hg) hK hn) dX9_oneCommand_145 (mX9_scan) rfl lX9_202 iX9_scan vX9_scan (by decide) (by omega) (by exact hm) rfl rfl rfl rfl (Nat.le_of_ble_eq_true rfl) (fun v9 h9 z9 => ?_)
  obtain ⟨rfl, hw, qoff⟩ := z9
  have hoff := hoff.trans qoff
  obtain ⟨I, w, hP, hfr, h21, h22, hD, htk⟩ := id hw
  have hm := hP.1.1
  have hx := hP.2.2.2.2.2.1
  have hg1 : (x_next tx len S).2.1 = 0 := hg
  refine g_aload_n dX9_oneCommand_148 rfl (by rfl) ?_
  refine g_iconst 0 dX9_oneCommand_149 (by rfl) ?_
  refine g_bipush 100 dX9_oneCommand_150 (by rfl) ?_
  refine g_callV_p (c_number hw hK hn 0 100) dX9_oneCommand_152 (mX9_number) rfl lX9_211 iX9_number vX9_number (by decide) (by omega) (by exact hm) rfl rfl rfl rfl (Nat.le_of_ble_eq_true rfl) (fun v9 h9 z9 => ?_)
  obtain ⟨rfl, hw, qoff⟩ := z9
  generalize hv_v1 : m_nv _ _ _ _ = v1
  have hoff := hoff.trans qoff
  obtain ⟨I, w, hP, hfr, h21, h22, hD, htk⟩ := id hw
  have hm := hP.1.1
  have hx := hP.2.2.2.2.2.1
  refine g_istore_n dX9_oneCommand_155 rfl (by decide) ?_
  refine g_aload_n dX9_oneCommand_156 rfl (by rfl) ?_
  refine g_iconst (x_bi true) dX9_oneCommand_157 (by rfl) ?_
  refine g_callV_p (c_ends hw hK hn true) dX9_oneCommand_158 (mX9_ends) rfl lX9_226 iX9_ends vX9_ends (by decide) (by omega) (by exact hm) rfl rfl rfl rfl (Nat.le_of_ble_eq_true rfl) (fun v9 h9 z9 => ?_)
  obtain ⟨rfl, hw, qoff⟩ := z9
  have hoff := hoff.trans qoff
  obtain ⟨I, w, hP, hfr, h21, h22, hD, htk⟩ := id hw
  have hm := hP.1.1
  have hx := hP.2.2.2.2.2.1
  refine g_if_eq (tgt := 171) dX9_oneCommand_161 (by decide) (fun c_161 => ?_) (fun c_161 => ?_)
  · have hno : ¬ (m_en true (x_nx tx len (m_nu tx 0 100 (x_next tx len S)))).2.1 = 0 := fun z => by rw [if_pos z] at c_161; exact absurd c_161 (by decide)
    refine g_goto (tgt := 296) dX9_oneCommand_171 (by decide) ?_
    refine g_vreturn dX9_oneCommand_296 rfl ?_
    first | (refine ⟨rfl, rfl, ?_, hoff⟩; (rw [(((m_fin (b := true) hpre).1 hno).resolve_right (fun z => absurd z.1 (by decide)))]; exact hw)) | (refine ⟨rfl, rfl, ?_, hoff⟩; (rw [hX, show x_arg tx len (x_k1 5) S = x_arg tx len 4 S from rfl, ec, show (x_exec 5 (nI c) 0 (x_nx tx len (m_nu tx 0 100 (x_next tx len S)))).2 = (d_cap (x_nx tx len (m_nu tx 0 100 (x_next tx len S))).1 (nI c), (x_nx tx len (m_nu tx 0 100 (x_next tx len S))).2) from rfl]; exact m_ss.act (σ1 := (d_cap _ (nI c))) hP hfr h21 h22 htk ⟨ok.cap ch, m_D_cap he⟩))
  · have hyes : (m_en true (x_nx tx len (m_nu tx 0 100 (x_next tx len S)))).2.1 = 0 := Classical.byContradiction fun z => c_161 (if_neg z)
    obtain ⟨-, ⟨hA, hV, hY1⟩, e9, hX⟩ := (m_fin (b := true) hpre).2 hyes
    rw [e9] at hw hD htk h21 h22
    obtain ⟨cnt, cp, ok, he⟩ := hD
    have okm := he.sy.ok ok
    have hM := hP.1
    have hw := hM.2
    have hc := okm.1
    have h14 := ok.2.1
    have hT := hP.2.2.2.2.2.2.2
    obtain ⟨c, ec, cl, ch⟩ := x_argN (tx := tx) (len := len) (kd := 4) (S := S) 0 100 (by decide) rfl (by decide) (by decide) hA
    have t1_v1 := hV.trans ec
    have t2_v1 := hv_v1.symm.trans t1_v1
    subst t2_v1
    refine g_aload_n dX9_oneCommand_164 rfl (by rfl) ?_
    refine g_getf dX9_oneCommand_165 fX9_9 (by exact hm) (by omega) (by rfl) ?_
    refine g_iconst 0 dX9_oneCommand_168 (by rfl) ?_
    refine g_iload_n dX9_oneCommand_169 rfl (by rfl) ?_
    refine g_iast' dX9_oneCommand_170 (by exact hw) (by omega) (show (0 : Int32) = nI 0 from rfl) (by decide) (by omega) (fun h1 e1 => ?_)
    first | have hm_1 := s_up_off e1 (by omega) hm | have hm_1 := s_up_at e1
    first | have hw_1 := s_up_off e1 (by omega) hw | have hw_1 := s_up_at e1
    have hM : m_at h1 m _ (upd w 0 (nI c)) := ⟨s_up_off e1 (by omega) hm, s_up_at e1⟩
    have qoff : s_off _ h1 (m + 1) (m + 2) := s_off.rf.up e1 (by omega)
    have hP := hP.wc qoff hM.2
    have hoff := hoff.w qoff (by omega)
    refine g_goto (tgt := 296) dX9_oneCommand_171 (by decide) ?_
    refine g_vreturn dX9_oneCommand_296 rfl ?_
    first | (refine ⟨rfl, rfl, ?_, hoff⟩; (rw [(((m_fin (b := true) hpre).1 hno).resolve_right (fun z => absurd z.1 (by decide)))]; exact hw)) | (refine ⟨rfl, rfl, ?_, hoff⟩; (rw [hX, show x_arg tx len (x_k1 5) S = x_arg tx len 4 S from rfl, ec, show (x_exec 5 (nI c) 0 (x_nx tx len (m_nu tx 0 100 (x_next tx len S)))).2 = (d_cap (x_nx tx len (m_nu tx 0 100 (x_next tx len S))).1 (nI c), (x_nx tx len (m_nu tx 0 100 (x_next tx len S))).2) from rfl]; exact m_ss.act (σ1 := (d_cap _ (nI c))) hP hfr h21 h22 htk ⟨ok.cap ch, m_D_cap he⟩))

theorem c_one6 {h : s_H} {n m len dp : Nat} {I0 sn tm rp tx : Nat → Int32} {P : Nat → Nat → Int32} {S : x_S} (hw : m_ss h m I0 sn P tm rp tx len dp S) (hK : m_kx I0 tm tx len) (hn : m + 21 ≤ n) (hg : S.2.1 = 0) (hW : ∀ i, i < 12 → (decide (S.2.1 = 0) && x_is tx S.2.2.2.1 S.2.2.2.2.1 S.2.2.2.2.2.1 i) = decide (i = 8)) : s_Mt TX9_oneCommand 0 0 [.ref m] h n (s_rp n (fun v9 h1 => v9 = none ∧ m_ss h1 m I0 sn P tm rp tx len dp (x_do tx len 6 S).2 ∧ m_of h h1 m) s_no) := by
  obtain ⟨I, w, hP, hfr, h21, h22, hD, htk⟩ := id hw
  have hm := hP.1.1
  have hx := hP.2.2.2.2.2.1
  have hoff : m_of h h m := m_of.rf
  have hpre := m_pre1 (tx := tx) (len := len) (j := 6) (S := S) (lo := 1) (hi := 50) (by decide) (by decide) rfl (by decide) hg
  refine s_Mt_of rfl (by decide) (by exact Nat.le_of_ble_eq_true rfl) ?_
  refine g_aload_n dX9_oneCommand_0 rfl (by rfl) ?_
  refine g_callV_e (c_stateHere hw hK hn hW) dX9_oneCommand_1 (mX9_stateHere) rfl lX9_242 iX9_stateHere vX9_stateHere (by decide) (by omega) (by exact hm) rfl rfl rfl rfl (Nat.le_of_ble_eq_true rfl) ?_
  refine g_istore_n dX9_oneCommand_4 rfl (by decide) ?_
  refine g_iload_n dX9_oneCommand_5 rfl (by rfl) ?_
  refine g_iconst (-1) dX9_oneCommand_6 (by rfl) ?_
  refine g_icmp_eq (tgt := 37) dX9_oneCommand_7 (by decide) (fun _ => ?_) (fun c_7 => absurd rfl c_7)
  refine g_aload_n dX9_oneCommand_37 rfl (by rfl) ?_
  refine g_kstr (i := 2) (text := "item") (show ("BackupPlannerModel", 245, "item", 2) ∈ s_str by decide) dX9_oneCommand_38 ?_
  refine g_callV_e (c_X9_isWord hw hK hn (i := 2) (by decide)) dX9_oneCommand_40 (mX9_isWord) rfl lX9_222 iX9_isWord vX9_isWord (by decide) (by omega) (by exact hm) rfl rfl rfl rfl (Nat.le_of_ble_eq_true rfl) ?_
  rw [hW 2 (by decide)]
  refine g_if_eq (tgt := 101) dX9_oneCommand_43 (by decide) (fun _ => ?_) (fun c_43 => absurd rfl c_43)
  refine g_aload_n dX9_oneCommand_101 rfl (by rfl) ?_
  refine g_kstr (i := 6) (text := "remove") (show ("BackupPlannerModel", 247, "remove", 6) ∈ s_str by decide) dX9_oneCommand_102 ?_
  refine g_callV_e (c_X9_isWord hw hK hn (i := 6) (by decide)) dX9_oneCommand_104 (mX9_isWord) rfl lX9_222 iX9_isWord vX9_isWord (by decide) (by omega) (by exact hm) rfl rfl rfl rfl (Nat.le_of_ble_eq_true rfl) ?_
  rw [hW 6 (by decide)]
  refine g_if_eq (tgt := 135) dX9_oneCommand_107 (by decide) (fun _ => ?_) (fun c_107 => absurd rfl c_107)
  refine g_aload_n dX9_oneCommand_135 rfl (by rfl) ?_
  refine g_kstr (i := 7) (text := "capacity") (show ("BackupPlannerModel", 248, "capacity", 7) ∈ s_str by decide) dX9_oneCommand_136 ?_
  refine g_callV_e (c_X9_isWord hw hK hn (i := 7) (by decide)) dX9_oneCommand_138 (mX9_isWord) rfl lX9_222 iX9_isWord vX9_isWord (by decide) (by omega) (by exact hm) rfl rfl rfl rfl (Nat.le_of_ble_eq_true rfl) ?_
  rw [hW 7 (by decide)]
  refine g_if_eq (tgt := 174) dX9_oneCommand_141 (by decide) (fun _ => ?_) (fun c_141 => absurd rfl c_141)
  refine g_aload_n dX9_oneCommand_174 rfl (by rfl) ?_
  refine g_kstr (i := 8) (text := "backup") (show ("BackupPlannerModel", 250, "backup", 8) ∈ s_str by decide) dX9_oneCommand_175 ?_
  refine g_callV_e (c_X9_isWord hw hK hn (i := 8) (by decide)) dX9_oneCommand_177 (mX9_isWord) rfl lX9_222 iX9_isWord vX9_isWord (by decide) (by omega) (by exact hm) rfl rfl rfl rfl (Nat.le_of_ble_eq_true rfl) ?_
  rw [hW 8 (by decide)]
  refine g_if_eq (tgt := 212) dX9_oneCommand_180 (by decide) (fun c_180 => absurd c_180 (by decide)) (fun _ => ?_)
  refine g_aload_n dX9_oneCommand_183 rfl (by rfl) ?_
  refine g_callV_p (c_scan (hw.s0 hg) hK hn) dX9_oneCommand_184 (mX9_scan) rfl lX9_202 iX9_scan vX9_scan (by decide) (by omega) (by exact hm) rfl rfl rfl rfl (Nat.le_of_ble_eq_true rfl) (fun v9 h9 z9 => ?_)
  obtain ⟨rfl, hw, qoff⟩ := z9
  have hoff := hoff.trans qoff
  obtain ⟨I, w, hP, hfr, h21, h22, hD, htk⟩ := id hw
  have hm := hP.1.1
  have hx := hP.2.2.2.2.2.1
  have hg1 : (x_next tx len S).2.1 = 0 := hg
  refine g_aload_n dX9_oneCommand_187 rfl (by rfl) ?_
  refine g_iconst 1 dX9_oneCommand_188 (by rfl) ?_
  refine g_bipush 50 dX9_oneCommand_189 (by rfl) ?_
  refine g_callV_p (c_number hw hK hn 1 50) dX9_oneCommand_191 (mX9_number) rfl lX9_211 iX9_number vX9_number (by decide) (by omega) (by exact hm) rfl rfl rfl rfl (Nat.le_of_ble_eq_true rfl) (fun v9 h9 z9 => ?_)
  obtain ⟨rfl, hw, qoff⟩ := z9
  generalize hv_v1 : m_nv _ _ _ _ = v1
  have hoff := hoff.trans qoff
  obtain ⟨I, w, hP, hfr, h21, h22, hD, htk⟩ := id hw
  have hm := hP.1.1
  have hx := hP.2.2.2.2.2.1
  refine g_istore_n dX9_oneCommand_194 rfl (by decide) ?_
  refine g_aload_n dX9_oneCommand_195 rfl (by rfl) ?_
  refine g_iconst (x_bi true) dX9_oneCommand_196 (by rfl) ?_
  refine g_callV_p (c_ends hw hK hn true) dX9_oneCommand_197 (mX9_ends) rfl lX9_226 iX9_ends vX9_ends (by decide) (by omega) (by exact hm) rfl rfl rfl rfl (Nat.le_of_ble_eq_true rfl) (fun v9 h9 z9 => ?_)
  obtain ⟨rfl, hw, qoff⟩ := z9
  have hoff := hoff.trans qoff
  obtain ⟨I, w, hP, hfr, h21, h22, hD, htk⟩ := id hw
  have hm := hP.1.1
  have hx := hP.2.2.2.2.2.1
  refine g_if_eq (tgt := 209) dX9_oneCommand_200 (by decide) (fun c_200 => ?_) (fun c_200 => ?_)
  · have hno : ¬ (m_en true (x_nx tx len (m_nu tx 1 50 (x_next tx len S)))).2.1 = 0 := fun z => by rw [if_pos z] at c_200; exact absurd c_200 (by decide)
    refine g_goto (tgt := 296) dX9_oneCommand_209 (by decide) ?_
    refine g_vreturn dX9_oneCommand_296 rfl ?_
    first | (refine ⟨rfl, rfl, ?_, hoff⟩; (rw [(((m_fin (b := true) hpre).1 hno).resolve_right (fun z => absurd z.1 (by decide)))]; exact hw)) | (refine ⟨rfl, rfl, ?_, hoff⟩; (rw [hX, show x_arg tx len (x_k1 6) S = x_arg tx len 5 S from rfl, eq, show (x_exec 6 (nI q) 0 (x_nx tx len (m_nu tx 1 50 (x_next tx len S)))).2 = (v_bn (x_nx tx len (m_nu tx 1 50 (x_next tx len S))).1 (x_cn (x_nx tx len (m_nu tx 1 50 (x_next tx len S))).1) (x_cp (x_nx tx len (m_nu tx 1 50 (x_next tx len S))).1) (nI q).toNatClampNeg, (x_nx tx len (m_nu tx 1 50 (x_next tx len S))).2) from rfl, nI_clamp (by omega), ok.cn, ok.cpe]; exact m_ss.act (σ1 := (v_bn _ cnt cp q)) hP hfr h21 h22 htk ⟨v_bn_ok ok _, he8.tr (he.bnn q)⟩))
  · have hyes : (m_en true (x_nx tx len (m_nu tx 1 50 (x_next tx len S)))).2.1 = 0 := Classical.byContradiction fun z => c_200 (if_neg z)
    obtain ⟨-, ⟨hA, hV, hY1⟩, e9, hX⟩ := (m_fin (b := true) hpre).2 hyes
    rw [e9] at hw hD htk h21 h22
    obtain ⟨cnt, cp, ok, he⟩ := hD
    have okm := he.sy.ok ok
    have hM := hP.1
    have hw := hM.2
    have hc := okm.1
    have h14 := ok.2.1
    have hT := hP.2.2.2.2.2.2.2
    obtain ⟨q, eq, ql, qh⟩ := x_argN (tx := tx) (len := len) (kd := 5) (S := S) 1 50 (by decide) rfl (by decide) (by decide) hA
    have t1_v1 := hV.trans eq
    have t2_v1 := hv_v1.symm.trans t1_v1
    subst t2_v1
    refine g_aload_n dX9_oneCommand_203 rfl (by rfl) ?_
    refine g_iload_n dX9_oneCommand_204 rfl (by rfl) ?_
    refine g_callV_p (c_X9_backupAll hM hn okm hT (q := q) (by omega)) dX9_oneCommand_205 (mX9_backupAll) rfl lX9_152 iX9_backupAll vX9_backupAll (by decide) (by omega) (by exact hm) rfl rfl rfl rfl (Nat.le_of_ble_eq_true rfl) (fun v9 h9 z9 => ?_)
    obtain ⟨rfl, ⟨w8, hM, he8⟩, hT, qoff⟩ := z9
    have qoff9 : s_off2 _ _ m (m + 2) (m + 18) (m + 21) := fun j a b => qoff j (by omega) b
    have hP := hP.q qoff9 hM hT
    have hoff := hoff.w2 qoff9 (by omega)
    have hm := hM.1
    have hw := hM.2
    refine g_istore_n dX9_oneCommand_208 rfl (by decide) ?_
    refine g_goto (tgt := 296) dX9_oneCommand_209 (by decide) ?_
    refine g_vreturn dX9_oneCommand_296 rfl ?_
    first | (refine ⟨rfl, rfl, ?_, hoff⟩; (rw [(((m_fin (b := true) hpre).1 hno).resolve_right (fun z => absurd z.1 (by decide)))]; exact hw)) | (refine ⟨rfl, rfl, ?_, hoff⟩; (rw [hX, show x_arg tx len (x_k1 6) S = x_arg tx len 5 S from rfl, eq, show (x_exec 6 (nI q) 0 (x_nx tx len (m_nu tx 1 50 (x_next tx len S)))).2 = (v_bn (x_nx tx len (m_nu tx 1 50 (x_next tx len S))).1 (x_cn (x_nx tx len (m_nu tx 1 50 (x_next tx len S))).1) (x_cp (x_nx tx len (m_nu tx 1 50 (x_next tx len S))).1) (nI q).toNatClampNeg, (x_nx tx len (m_nu tx 1 50 (x_next tx len S))).2) from rfl, nI_clamp (by omega), ok.cn, ok.cpe]; exact m_ss.act (σ1 := (v_bn _ cnt cp q)) hP hfr h21 h22 htk ⟨v_bn_ok ok _, he8.tr (he.bnn q)⟩))

theorem c_one0t {h : s_H} {n m len dp : Nat} {I0 sn tm rp tx : Nat → Int32} {P : Nat → Nat → Int32} {S T : x_S} (hw : m_ss h m I0 sn P tm rp tx len dp T) (hK : m_kx I0 tm tx len) (hn : m + 21 ≤ n) (hg : S.2.1 = 0) {h0 : s_H} (hoff : m_of h0 h m) (hT : T = (x_nx tx len (m_nu tx 0 999 (x_nx tx len (m_nu tx 1 60 (x_next tx len S)))))) {cnt0 : Nat} (hcn0 : x_cn T.1 = cnt0) {v1 v2 : Int32} (hv_v1 : m_nv tx 1 60 (x_next tx len S) = v1) (hv_v2 : m_nv tx 0 999 (x_nx tx len (m_nu tx 1 60 (x_next tx len S))) = v2) {lv : s_V} (l0 : lv 0 = some (.ref m)) (l2 : lv 2 = some (.int v1)) (l3 : lv 3 = some (.int v2)) : (cnt0 < 14 → s_G TX9_oneCommand (s_rp n (fun v9 h1 => v9 = none ∧ m_ss h1 m I0 sn P tm rp tx len dp (x_do tx len 0 S).2 ∧ m_of h0 h1 m) s_no) 84 lv [.int (x_bi true), .ref m] h n 0 0) ∧ (cnt0 = 14 → s_G TX9_oneCommand (s_rp n (fun v9 h1 => v9 = none ∧ m_ss h1 m I0 sn P tm rp tx len dp (x_do tx len 0 S).2 ∧ m_of h0 h1 m) s_no) 84 lv [.int (x_bi false), .ref m] h n 0 0) := by
  subst hT
  have hpre := m_pre2 (tx := tx) (len := len) (j := 0) (S := S) (lo := 1) (hi := 60) (lo2 := 0) (hi2 := 999) (by decide) (by decide) rfl (by decide) (fun _ => rfl) (by decide) hg
  rw [show x_k1 0 = 2 from rfl, show x_k2 0 = 3 from rfl] at hpre
  refine ⟨fun hroom => ?_, fun hfull => ?_⟩
  · refine g_lv (l := [(0, .ref m), (2, .int v1), (3, .int v2)]) ?_ ⟨l0, l2, l3, trivial⟩
    obtain ⟨I, w, hP, hfr, h21, h22, hD, htk⟩ := id hw
    have hm := hP.1.1
    refine g_callV_p (c_ends hw hK hn true) dX9_oneCommand_84 (mX9_ends) rfl lX9_226 iX9_ends vX9_ends (by decide) (by omega) (by exact hm) rfl rfl rfl rfl (Nat.le_of_ble_eq_true rfl) (fun v9 h9 z9 => ?_)
    obtain ⟨rfl, hw, qoff⟩ := z9
    have hoff := hoff.trans qoff
    obtain ⟨I, w, hP, hfr, h21, h22, hD, htk⟩ := id hw
    have hm := hP.1.1
    have hx := hP.2.2.2.2.2.1
    refine g_if_eq (tgt := 98) dX9_oneCommand_87 (by decide) (fun c_87 => ?_) (fun c_87 => ?_)
    · have hno : ¬ (m_en true (x_nx tx len (m_nu tx 0 999 (x_nx tx len (m_nu tx 1 60 (x_next tx len S)))))).2.1 = 0 := fun z => by rw [if_pos z] at c_87; exact absurd c_87 (by decide)
      refine g_goto (tgt := 296) dX9_oneCommand_98 (by decide) ?_
      refine g_vreturn dX9_oneCommand_296 rfl ?_
      first | (refine ⟨rfl, rfl, ?_, hoff⟩; (rw [(((m_fin (b := true) hpre).1 hno).resolve_right (fun z => absurd z.1 (by decide)))]; exact hw)) | (refine ⟨rfl, rfl, ?_, hoff⟩; (rw [hX, ea, ed, x_exec0_t (by rw [ok.cn]; exact hlt), ok.cn]; exact m_ss.act (σ1 := (d_add _ cnt (nI a) (nI d))) hP hfr h21 h22 htk ⟨ok.add hlt al ah dh, m_D_add.tr he.add⟩))
    · have hyes : (m_en true (x_nx tx len (m_nu tx 0 999 (x_nx tx len (m_nu tx 1 60 (x_next tx len S)))))).2.1 = 0 := Classical.byContradiction fun z => c_87 (if_neg z)
      obtain ⟨-, ⟨hA, hV, hB, hV2, hA1, hY1⟩, e9, hX⟩ := (m_fin (b := true) hpre).2 hyes
      rw [e9] at hw hD htk h21 h22
      obtain ⟨cnt, cp, ok, he⟩ := hD
      have okm := he.sy.ok ok
      have hM := hP.1
      have hw := hM.2
      have hc := okm.1
      have h14 := ok.2.1
      have hT := hP.2.2.2.2.2.2.2
      obtain ⟨a, ea, al, ah⟩ := x_argN (tx := tx) (len := len) (kd := 2) (S := S) 1 60 (by decide) rfl (by decide) (by decide) hA
      have t1_v1 := hV.trans ea
      have t2_v1 := hv_v1.symm.trans t1_v1
      subst t2_v1
      obtain ⟨d, ed, dl, dh⟩ := x_argN (tx := tx) (len := len) (kd := 3) (S := (x_arg tx len 2 S).2) 0 999 (by decide) rfl (by decide) (by decide) hB
      have t1_v2 := hV2.trans ed
      have t2_v2 := hv_v2.symm.trans t1_v2
      subst t2_v2
      obtain rfl : cnt = cnt0 := ok.cn.symm.trans hcn0
      have hlt : cnt < 14 := hroom
      refine g_aload_n dX9_oneCommand_90 rfl (by rfl) ?_
      refine g_iload_n dX9_oneCommand_91 rfl (by rfl) ?_
      refine g_iload_n dX9_oneCommand_92 rfl (by rfl) ?_
      refine g_callV_p (c_X9_add hM hn hc hlt (nI a) (nI d)) dX9_oneCommand_93 (mX9_add) rfl lX9_51 iX9_add vX9_add (by decide) (by omega) (by exact hm) rfl rfl rfl rfl (Nat.le_of_ble_eq_true rfl) (fun v9 h9 z9 => ?_)
      obtain ⟨rfl, hM, qoff⟩ := z9
      have hT := hT.off qoff (by omega)
      have hP := hP.q (qoff.wide (a' := m) (b' := m + 2) (by omega) (by omega)).l2 hM hT
      have hoff := hoff.w qoff (by omega)
      have hm := hM.1
      have hw := hM.2
      refine g_istore dX9_oneCommand_96 (by decide) ?_
      refine g_goto (tgt := 296) dX9_oneCommand_98 (by decide) ?_
      refine g_vreturn dX9_oneCommand_296 rfl ?_
      first | (refine ⟨rfl, rfl, ?_, hoff⟩; (rw [(((m_fin (b := true) hpre).1 hno).resolve_right (fun z => absurd z.1 (by decide)))]; exact hw)) | (refine ⟨rfl, rfl, ?_, hoff⟩; (rw [hX, ea, ed, x_exec0_t (by rw [ok.cn]; exact hlt), ok.cn]; exact m_ss.act (σ1 := (d_add _ cnt (nI a) (nI d))) hP hfr h21 h22 htk ⟨ok.add hlt al ah dh, m_D_add.tr he.add⟩))
  · have hge : ¬ x_cn (x_nx tx len (m_nu tx 0 999 (x_nx tx len (m_nu tx 1 60 (x_next tx len S))))).1 < 14 := by
      rw [hcn0]
      omega
    refine g_lv (l := [(0, .ref m), (2, .int v1), (3, .int v2)]) ?_ ⟨l0, l2, l3, trivial⟩
    obtain ⟨I, w, hP, hfr, h21, h22, hD, htk⟩ := id hw
    have hm := hP.1.1
    refine g_callV_p (c_ends hw hK hn false) dX9_oneCommand_84 (mX9_ends) rfl lX9_226 iX9_ends vX9_ends (by decide) (by omega) (by exact hm) rfl rfl rfl rfl (Nat.le_of_ble_eq_true rfl) (fun v9 h9 z9 => ?_)
    obtain ⟨rfl, hw, qoff⟩ := z9
    have hoff := hoff.trans qoff
    obtain ⟨I, w, hP, hfr, h21, h22, hD, htk⟩ := id hw
    have hm := hP.1.1
    have hx := hP.2.2.2.2.2.1
    refine g_if_eq (tgt := 98) dX9_oneCommand_87 (by decide) (fun c_87 => ?_) (fun c_87 => ?_)
    · have hno : ¬ (m_en false (x_nx tx len (m_nu tx 0 999 (x_nx tx len (m_nu tx 1 60 (x_next tx len S)))))).2.1 = 0 := fun z => by rw [if_pos z] at c_87; exact absurd c_87 (by decide)
      refine g_goto (tgt := 296) dX9_oneCommand_98 (by decide) ?_
      refine g_vreturn dX9_oneCommand_296 rfl ?_
      (refine ⟨rfl, rfl, ?_, hoff⟩; (rcases (m_fin (b := false) hpre).1 hno with e | ⟨z, -, hQ, hX, e⟩; (rw [e]; exact hw); (have e2 := hX.trans (x_exec0_f hge); have e3 := congrArg Prod.snd e2; have e4 := e3.trans e.symm; rw [e4]; exact hw)))
    · exact absurd (Classical.byContradiction fun z => c_87 (if_neg z)) (fun hyes => absurd ((m_fin (b := false) hpre).2 hyes).1 (by decide))

theorem c_one0 {h : s_H} {n m len dp : Nat} {I0 sn tm rp tx : Nat → Int32} {P : Nat → Nat → Int32} {S : x_S} (hw : m_ss h m I0 sn P tm rp tx len dp S) (hK : m_kx I0 tm tx len) (hn : m + 21 ≤ n) (hg : S.2.1 = 0) (hW : ∀ i, i < 12 → (decide (S.2.1 = 0) && x_is tx S.2.2.2.1 S.2.2.2.2.1 S.2.2.2.2.2.1 i) = decide (i = 2)) : s_Mt TX9_oneCommand 0 0 [.ref m] h n (s_rp n (fun v9 h1 => v9 = none ∧ m_ss h1 m I0 sn P tm rp tx len dp (x_do tx len 0 S).2 ∧ m_of h h1 m) s_no) := by
  obtain ⟨I, w, hP, hfr, h21, h22, hD, htk⟩ := id hw
  have hm := hP.1.1
  have hx := hP.2.2.2.2.2.1
  have hoff : m_of h h m := m_of.rf
  have hw0 := hP.1.2
  refine s_Mt_of rfl (by decide) (by exact Nat.le_of_ble_eq_true rfl) ?_
  refine g_aload_n dX9_oneCommand_0 rfl (by rfl) ?_
  refine g_callV_e (c_stateHere hw hK hn hW) dX9_oneCommand_1 (mX9_stateHere) rfl lX9_242 iX9_stateHere vX9_stateHere (by decide) (by omega) (by exact hm) rfl rfl rfl rfl (Nat.le_of_ble_eq_true rfl) ?_
  refine g_istore_n dX9_oneCommand_4 rfl (by decide) ?_
  refine g_iload_n dX9_oneCommand_5 rfl (by rfl) ?_
  refine g_iconst (-1) dX9_oneCommand_6 (by rfl) ?_
  refine g_icmp_eq (tgt := 37) dX9_oneCommand_7 (by decide) (fun _ => ?_) (fun c_7 => absurd rfl c_7)
  refine g_aload_n dX9_oneCommand_37 rfl (by rfl) ?_
  refine g_kstr (i := 2) (text := "item") (show ("BackupPlannerModel", 245, "item", 2) ∈ s_str by decide) dX9_oneCommand_38 ?_
  refine g_callV_e (c_X9_isWord hw hK hn (i := 2) (by decide)) dX9_oneCommand_40 (mX9_isWord) rfl lX9_222 iX9_isWord vX9_isWord (by decide) (by omega) (by exact hm) rfl rfl rfl rfl (Nat.le_of_ble_eq_true rfl) ?_
  rw [hW 2 (by decide)]
  refine g_if_eq (tgt := 101) dX9_oneCommand_43 (by decide) (fun c_43 => absurd c_43 (by decide)) (fun _ => ?_)
  refine g_aload_n dX9_oneCommand_46 rfl (by rfl) ?_
  refine g_callV_p (c_scan (hw.s0 hg) hK hn) dX9_oneCommand_47 (mX9_scan) rfl lX9_202 iX9_scan vX9_scan (by decide) (by omega) (by exact hm) rfl rfl rfl rfl (Nat.le_of_ble_eq_true rfl) (fun v9 h9 z9 => ?_)
  obtain ⟨rfl, hw, qoff⟩ := z9
  have hoff := hoff.trans qoff
  obtain ⟨I, w, hP, hfr, h21, h22, hD, htk⟩ := id hw
  have hm := hP.1.1
  have hx := hP.2.2.2.2.2.1
  have hg1 : (x_next tx len S).2.1 = 0 := hg
  refine g_aload_n dX9_oneCommand_50 rfl (by rfl) ?_
  refine g_iconst 1 dX9_oneCommand_51 (by rfl) ?_
  refine g_bipush 60 dX9_oneCommand_52 (by rfl) ?_
  refine g_callV_p (c_number hw hK hn 1 60) dX9_oneCommand_54 (mX9_number) rfl lX9_211 iX9_number vX9_number (by decide) (by omega) (by exact hm) rfl rfl rfl rfl (Nat.le_of_ble_eq_true rfl) (fun v9 h9 z9 => ?_)
  obtain ⟨rfl, hw, qoff⟩ := z9
  generalize hv_v1 : m_nv _ _ _ _ = v1
  have hoff := hoff.trans qoff
  obtain ⟨I, w, hP, hfr, h21, h22, hD, htk⟩ := id hw
  have hm := hP.1.1
  have hx := hP.2.2.2.2.2.1
  refine g_istore_n dX9_oneCommand_57 rfl (by decide) ?_
  refine g_aload_n dX9_oneCommand_58 rfl (by rfl) ?_
  refine g_iconst 0 dX9_oneCommand_59 (by rfl) ?_
  refine g_sipush 999 dX9_oneCommand_60 (by rfl) ?_
  refine g_callV_p (c_number hw hK hn 0 999) dX9_oneCommand_63 (mX9_number) rfl lX9_211 iX9_number vX9_number (by decide) (by omega) (by exact hm) rfl rfl rfl rfl (Nat.le_of_ble_eq_true rfl) (fun v9 h9 z9 => ?_)
  obtain ⟨rfl, hw, qoff⟩ := z9
  generalize hv_v2 : m_nv _ _ _ _ = v2
  have hoff := hoff.trans qoff
  obtain ⟨I, w, hP, hfr, h21, h22, hD, htk⟩ := id hw
  have hm := hP.1.1
  have hx := hP.2.2.2.2.2.1
  obtain ⟨cnt0, cp0, ok0, he0⟩ := id hD
  have hw0 := hP.1.2
  have hc0 : w 1 = nI cnt0 := (he0.sy.ok ok0).1
  have h140 := ok0.2.1
  refine g_istore_n dX9_oneCommand_66 rfl (by decide) ?_
  refine g_aload_n dX9_oneCommand_67 rfl (by rfl) ?_
  refine g_aload_n dX9_oneCommand_68 rfl (by rfl) ?_
  refine g_getf dX9_oneCommand_69 fX9_9 (by exact hm) (by omega) (by rfl) ?_
  refine g_iconst 1 dX9_oneCommand_72 (by rfl) ?_
  refine g_iald dX9_oneCommand_73 (by exact hw0) (by omega) (show (1 : Int32) = nI 1 from rfl) (by decide) (by omega) ?_
  rw [hc0]
  refine g_bipush 14 dX9_oneCommand_74 (by rfl) ?_
  refine g_icmp_ge (tgt := 83) dX9_oneCommand_76 (by decide) (fun c_76 => ?_) (fun c_76 => ?_)
  · have hfull : cnt0 = 14 := by
      have : ¬ cnt0 < 14 := fun z => absurd (nI_lt (b := 14) z (by omega)) (Int32.not_lt.mpr c_76)
      omega
    refine g_iconst (x_bi false) dX9_oneCommand_83 (by rfl) ?_
    first
    | exact (c_one0t hw hK hn hg hoff rfl ok0.cn hv_v1 hv_v2 rfl rfl rfl).1 hroom
    | exact (c_one0t hw hK hn hg hoff rfl ok0.cn hv_v1 hv_v2 rfl rfl rfl).2 hfull
  · have hroom : cnt0 < 14 := (nI_lti (b := 14) (by omega) (by omega)).mp (Int32.not_le.mp c_76)
    refine g_iconst (x_bi true) dX9_oneCommand_79 (by rfl) ?_
    refine g_goto (tgt := 84) dX9_oneCommand_80 (by decide) ?_
    first
    | exact (c_one0t hw hK hn hg hoff rfl ok0.cn hv_v1 hv_v2 rfl rfl rfl).1 hroom
    | exact (c_one0t hw hK hn hg hoff rfl ok0.cn hv_v1 hv_v2 rfl rfl rfl).2 hfull

theorem x_exec9_f {v1 v2 : Int32} {S : x_S} (h : d_room S.1 (x_cn S.1) < 0) : x_exec 9 v1 v2 S = (false, x_fail S 3) := if_pos h
theorem x_exec9_t {v1 v2 : Int32} {S : x_S} (h : ¬ d_room S.1 (x_cn S.1) < 0) : x_exec 9 v1 v2 S = (true, (d_kps S.1 (r_se (u_best S.1 (x_cn S.1) (x_cp S.1))) (x_cn S.1), S.2)) := if_neg h

theorem c_one9 {h : s_H} {n m len dp : Nat} {I0 sn tm rp tx : Nat → Int32} {P : Nat → Nat → Int32} {S : x_S} (hw : m_ss h m I0 sn P tm rp tx len dp S) (hK : m_kx I0 tm tx len) (hn : m + 21 ≤ n) (hg : S.2.1 = 0) (hW : ∀ i, i < 12 → (decide (S.2.1 = 0) && x_is tx S.2.2.2.1 S.2.2.2.2.1 S.2.2.2.2.2.1 i) = decide (i = 11)) : s_Mt TX9_oneCommand 0 0 [.ref m] h n (s_rp n (fun v9 h1 => v9 = none ∧ m_ss h1 m I0 sn P tm rp tx len dp (x_do tx len 9 S).2 ∧ m_of h h1 m) s_no) := by
  obtain ⟨I, w, hP, hfr, h21, h22, hD, htk⟩ := id hw
  have hm := hP.1.1
  have hx := hP.2.2.2.2.2.1
  have hoff : m_of h h m := m_of.rf
  have hpre : (¬ (x_next tx len S).2.1 = 0 ∧ x_do tx len 9 S = (false, (x_next tx len S))) ∨ ((x_next tx len S).2.1 = 0 ∧ True ∧ x_do tx len 9 S = if (x_next tx len S).2.2.2.2.1 = 59 then x_exec 9 0 0 (x_next tx len S) else (false, x_fail (x_next tx len S) 1)) := Or.inr ⟨hg, trivial, m_pre0 rfl rfl⟩
  refine s_Mt_of rfl (by decide) (by exact Nat.le_of_ble_eq_true rfl) ?_
  refine g_aload_n dX9_oneCommand_0 rfl (by rfl) ?_
  refine g_callV_e (c_stateHere hw hK hn hW) dX9_oneCommand_1 (mX9_stateHere) rfl lX9_242 iX9_stateHere vX9_stateHere (by decide) (by omega) (by exact hm) rfl rfl rfl rfl (Nat.le_of_ble_eq_true rfl) ?_
  refine g_istore_n dX9_oneCommand_4 rfl (by decide) ?_
  refine g_iload_n dX9_oneCommand_5 rfl (by rfl) ?_
  refine g_iconst (-1) dX9_oneCommand_6 (by rfl) ?_
  refine g_icmp_eq (tgt := 37) dX9_oneCommand_7 (by decide) (fun _ => ?_) (fun c_7 => absurd rfl c_7)
  refine g_aload_n dX9_oneCommand_37 rfl (by rfl) ?_
  refine g_kstr (i := 2) (text := "item") (show ("BackupPlannerModel", 245, "item", 2) ∈ s_str by decide) dX9_oneCommand_38 ?_
  refine g_callV_e (c_X9_isWord hw hK hn (i := 2) (by decide)) dX9_oneCommand_40 (mX9_isWord) rfl lX9_222 iX9_isWord vX9_isWord (by decide) (by omega) (by exact hm) rfl rfl rfl rfl (Nat.le_of_ble_eq_true rfl) ?_
  rw [hW 2 (by decide)]
  refine g_if_eq (tgt := 101) dX9_oneCommand_43 (by decide) (fun _ => ?_) (fun c_43 => absurd rfl c_43)
  refine g_aload_n dX9_oneCommand_101 rfl (by rfl) ?_
  refine g_kstr (i := 6) (text := "remove") (show ("BackupPlannerModel", 247, "remove", 6) ∈ s_str by decide) dX9_oneCommand_102 ?_
  refine g_callV_e (c_X9_isWord hw hK hn (i := 6) (by decide)) dX9_oneCommand_104 (mX9_isWord) rfl lX9_222 iX9_isWord vX9_isWord (by decide) (by omega) (by exact hm) rfl rfl rfl rfl (Nat.le_of_ble_eq_true rfl) ?_
  rw [hW 6 (by decide)]
  refine g_if_eq (tgt := 135) dX9_oneCommand_107 (by decide) (fun _ => ?_) (fun c_107 => absurd rfl c_107)
  refine g_aload_n dX9_oneCommand_135 rfl (by rfl) ?_
  refine g_kstr (i := 7) (text := "capacity") (show ("BackupPlannerModel", 248, "capacity", 7) ∈ s_str by decide) dX9_oneCommand_136 ?_
  refine g_callV_e (c_X9_isWord hw hK hn (i := 7) (by decide)) dX9_oneCommand_138 (mX9_isWord) rfl lX9_222 iX9_isWord vX9_isWord (by decide) (by omega) (by exact hm) rfl rfl rfl rfl (Nat.le_of_ble_eq_true rfl) ?_
  rw [hW 7 (by decide)]
  refine g_if_eq (tgt := 174) dX9_oneCommand_141 (by decide) (fun _ => ?_) (fun c_141 => absurd rfl c_141)
  refine g_aload_n dX9_oneCommand_174 rfl (by rfl) ?_
  refine g_kstr (i := 8) (text := "backup") (show ("BackupPlannerModel", 250, "backup", 8) ∈ s_str by decide) dX9_oneCommand_175 ?_
  refine g_callV_e (c_X9_isWord hw hK hn (i := 8) (by decide)) dX9_oneCommand_177 (mX9_isWord) rfl lX9_222 iX9_isWord vX9_isWord (by decide) (by omega) (by exact hm) rfl rfl rfl rfl (Nat.le_of_ble_eq_true rfl) ?_
  rw [hW 8 (by decide)]
  refine g_if_eq (tgt := 212) dX9_oneCommand_180 (by decide) (fun _ => ?_) (fun c_180 => absurd rfl c_180)
  refine g_aload_n dX9_oneCommand_212 rfl (by rfl) ?_
  refine g_kstr (i := 11) (text := "keep") (show ("BackupPlannerModel", 255, "keep", 11) ∈ s_str by decide) dX9_oneCommand_213 ?_
  refine g_callV_e (c_X9_isWord hw hK hn (i := 11) (by decide)) dX9_oneCommand_215 (mX9_isWord) rfl lX9_222 iX9_isWord vX9_isWord (by decide) (by omega) (by exact hm) rfl rfl rfl rfl (Nat.le_of_ble_eq_true rfl) ?_
  rw [hW 11 (by decide)]
  refine g_if_eq (tgt := 267) dX9_oneCommand_218 (by decide) (fun c_218 => absurd c_218 (by decide)) (fun _ => ?_)
  refine g_aload_n dX9_oneCommand_221 rfl (by rfl) ?_
  refine g_callV_p (c_scan (hw.s0 hg) hK hn) dX9_oneCommand_222 (mX9_scan) rfl lX9_202 iX9_scan vX9_scan (by decide) (by omega) (by exact hm) rfl rfl rfl rfl (Nat.le_of_ble_eq_true rfl) (fun v9 h9 z9 => ?_)
  obtain ⟨rfl, hw, qoff⟩ := z9
  have hoff := hoff.trans qoff
  obtain ⟨I, w, hP, hfr, h21, h22, hD, htk⟩ := id hw
  have hm := hP.1.1
  have hx := hP.2.2.2.2.2.1
  have hg1 : (x_next tx len S).2.1 = 0 := hg
  obtain ⟨cnt, cp, ok, he⟩ := id hD
  have okm := he.sy.ok ok
  have hM := hP.1
  have hT := hP.2.2.2.2.2.2.2
  refine g_aload_n dX9_oneCommand_225 rfl (by rfl) ?_
  refine g_callV_e (c_X9_good hw hK hn) dX9_oneCommand_226 (mX9_good) rfl lX9_198 iX9_good vX9_good (by decide) (by omega) (by exact hm) rfl rfl rfl rfl (Nat.le_of_ble_eq_true rfl) ?_
  rw [if_pos hg1]
  refine g_if_eq (tgt := 239) dX9_oneCommand_229 (by decide) (fun c_229 => absurd c_229 (by decide)) (fun _ => ?_)
  refine g_aload_n dX9_oneCommand_232 rfl (by rfl) ?_
  refine g_callV_p (c_X9_best hM hn okm hT) dX9_oneCommand_233 (mX9_best) rfl lX9_123 iX9_best vX9_best (by decide) (by omega) (by exact hm) rfl rfl rfl rfl (Nat.le_of_ble_eq_true rfl) (fun v9 h9 z9 => ?_)
  obtain ⟨rfl, hT, qoff⟩ := z9
  have hM := hM.off qoff (by omega)
  have hP := hP.q qoff.r2 hM hT
  have hoff := hoff.w qoff (by omega)
  have hm := hM.1
  have hw : m_ss h9 m I0 sn P tm rp tx len dp (x_next tx len S) := ⟨I, w, hP, hfr, h21, h22, ⟨cnt, cp, ok, he⟩, htk⟩
  refine g_goto (tgt := 240) dX9_oneCommand_236 (by decide) ?_
  refine g_istore_n dX9_oneCommand_240 rfl (by decide) ?_
  refine g_aload_n dX9_oneCommand_241 rfl (by rfl) ?_
  refine g_iload_n dX9_oneCommand_242 rfl (by rfl) ?_
  refine g_iconst (-1) dX9_oneCommand_243 (by rfl) ?_
  refine g_icmp_eq (tgt := 251) dX9_oneCommand_244 (by decide) (fun c_244 => ?_) (fun c_244 => ?_)
  · have hroom : d_room (x_next tx len S).1 (x_cn (x_next tx len S).1) < 0 := by
      rw [ok.cn, m_rm_np ok, ← he.best]
      exact (m_best okm ok.2.2.2.1).1.mp c_244
    refine g_iconst (x_bi false) dX9_oneCommand_251 (by rfl) ?_
    refine g_callV_p (c_ends hw hK hn false) dX9_oneCommand_252 (mX9_ends) rfl lX9_226 iX9_ends vX9_ends (by decide) (by omega) (by exact hm) rfl rfl rfl rfl (Nat.le_of_ble_eq_true rfl) (fun v9 h9 z9 => ?_)
    obtain ⟨rfl, hw, qoff⟩ := z9
    have hoff := hoff.trans qoff
    obtain ⟨I, w, hP, hfr, h21, h22, hD, htk⟩ := id hw
    have hm := hP.1.1
    have hx := hP.2.2.2.2.2.1
    refine g_if_eq (tgt := 264) dX9_oneCommand_255 (by decide) (fun c_255 => ?_) (fun c_255 => ?_)
    · have hno : ¬ (m_en false (x_next tx len S)).2.1 = 0 := fun z => by rw [if_pos z] at c_255; exact absurd c_255 (by decide)
      refine g_goto (tgt := 296) dX9_oneCommand_264 (by decide) ?_
      refine g_vreturn dX9_oneCommand_296 rfl ?_
      (refine ⟨rfl, rfl, ?_, hoff⟩; (rcases (m_fin (b := false) hpre).1 hno with e | ⟨z, -, -, hX, e⟩; (rw [e]; exact hw); (have e2 := hX.trans (x_exec9_f hroom); have e3 := congrArg Prod.snd e2; have e4 := e3.trans e.symm; rw [e4]; exact hw)))
    · exact absurd (Classical.byContradiction fun z => c_255 (if_neg z)) (fun hyes => absurd ((m_fin (b := false) hpre).2 hyes).1 (by decide))
  · have hnp : ¬ u_best (m_D w) cnt cp = r_NP := fun z => c_244 ((m_best okm ok.2.2.2.1).1.mpr z)
    have hroom : ¬ d_room (x_next tx len S).1 (x_cn (x_next tx len S).1) < 0 := by
      rw [ok.cn, m_rm_np ok, ← he.best]
      exact hnp
    have hse : r_se (u_best (x_next tx len S).1 cnt cp) = r_st (u_best (m_D w) cnt cp) := by
      rw [← he.best]
      exact ((m_best okm ok.2.2.2.1).2 hnp).2.2
    have hcn := ok.cn
    have hcp9 := ok.cpe
    clear okm
    generalize r_st (u_best (m_D w) cnt cp) = pl at *
    refine g_iconst (x_bi true) dX9_oneCommand_247 (by rfl) ?_
    refine g_goto (tgt := 252) dX9_oneCommand_248 (by decide) ?_
    refine g_callV_p (c_ends hw hK hn true) dX9_oneCommand_252 (mX9_ends) rfl lX9_226 iX9_ends vX9_ends (by decide) (by omega) (by exact hm) rfl rfl rfl rfl (Nat.le_of_ble_eq_true rfl) (fun v9 h9 z9 => ?_)
    obtain ⟨rfl, hw, qoff⟩ := z9
    have hoff := hoff.trans qoff
    obtain ⟨I, w, hP, hfr, h21, h22, hD, htk⟩ := id hw
    have hm := hP.1.1
    have hx := hP.2.2.2.2.2.1
    refine g_if_eq (tgt := 264) dX9_oneCommand_255 (by decide) (fun c_255 => ?_) (fun c_255 => ?_)
    · have hno : ¬ (m_en true (x_next tx len S)).2.1 = 0 := fun z => by rw [if_pos z] at c_255; exact absurd c_255 (by decide)
      refine g_goto (tgt := 296) dX9_oneCommand_264 (by decide) ?_
      refine g_vreturn dX9_oneCommand_296 rfl ?_
      first | (refine ⟨rfl, rfl, ?_, hoff⟩; (rw [(((m_fin (b := true) hpre).1 hno).resolve_right (fun z => absurd z.1 (by decide)))]; exact hw)) | (have e2 := hX.trans (x_exec9_t hroom); have e3 := congrArg Prod.snd e2; (refine ⟨rfl, rfl, ?_, hoff⟩; (rw [e3, ok.cn, ok.cpe, hse]; exact m_ss.act (Y := (x_next tx len S)) (σ1 := d_kps _ pl cnt1) hP hfr h21 h22 htk ⟨ok.kps _, he8.tr he1.kps⟩)))
    · have hyes : (m_en true (x_next tx len S)).2.1 = 0 := Classical.byContradiction fun z => c_255 (if_neg z)
      obtain ⟨-, -, e9, hX⟩ := (m_fin (b := true) hpre).2 hyes
      rw [e9] at hw hD htk h21 h22
      obtain ⟨cnt1, cp1, ok, he1⟩ := hD
      have okm := he1.sy.ok ok
      have hM := hP.1
      have hw := hM.2
      have hc := okm.1
      have h14 := ok.2.1
      have hT := hP.2.2.2.2.2.2.2
      obtain ⟨rfl, rfl⟩ : cnt1 = cnt ∧ cp1 = cp := ⟨ok.cn.symm.trans hcn, ok.cpe.symm.trans hcp9⟩
      refine g_aload_n dX9_oneCommand_258 rfl (by rfl) ?_
      refine g_iload_n dX9_oneCommand_259 rfl (by rfl) ?_
      refine g_callV_p (c_X9_pinAll hM hn hc h14 pl) dX9_oneCommand_260 (mX9_pinAll) rfl lX9_149 iX9_pinAll vX9_pinAll (by decide) (by omega) (by exact hm) rfl rfl rfl rfl (Nat.le_of_ble_eq_true rfl) (fun v9 h9 z9 => ?_)
      obtain ⟨rfl, ⟨w8, hM, he8⟩, qoff⟩ := z9
      have hT := hT.off qoff (by omega)
      have hP := hP.q (qoff.wide (a' := m) (b' := m + 2) (by omega) (by omega)).l2 hM hT
      have hoff := hoff.w qoff (by omega)
      have hm := hM.1
      have hw := hM.2
      refine g_istore_n dX9_oneCommand_263 rfl (by decide) ?_
      refine g_goto (tgt := 296) dX9_oneCommand_264 (by decide) ?_
      refine g_vreturn dX9_oneCommand_296 rfl ?_
      first | (refine ⟨rfl, rfl, ?_, hoff⟩; (rw [(((m_fin (b := true) hpre).1 hno).resolve_right (fun z => absurd z.1 (by decide)))]; exact hw)) | (have e2 := hX.trans (x_exec9_t hroom); have e3 := congrArg Prod.snd e2; (refine ⟨rfl, rfl, ?_, hoff⟩; (rw [e3, ok.cn, ok.cpe, hse]; exact m_ss.act (Y := (x_next tx len S)) (σ1 := d_kps _ pl cnt1) hP hfr h21 h22 htk ⟨ok.kps _, he8.tr he1.kps⟩)))

theorem c_num7 {h : s_H} {n m len dp : Nat} {I0 sn tm rp tx : Nat → Int32} {P : Nat → Nat → Int32} {S : x_S} (hw : m_ss h m I0 sn P tm rp tx len dp S) (hK : m_kx I0 tm tx len) (hn : m + 21 ≤ n) (hg : S.2.1 = 0) : s_Mt TX9_numberCommand 0 0 [.ref m, .int (nI 0), .int 1, .int 60] h n (s_rp n (fun v9 h1 => v9 = none ∧ m_ss h1 m I0 sn P tm rp tx len dp (x_do tx len 7 S).2 ∧ m_of h h1 m) s_no) := by
  obtain ⟨I, w, hP, hfr, h21, h22, hD, htk⟩ := id hw
  have hm := hP.1.1
  have hx := hP.2.2.2.2.2.1
  have hoff : m_of h h m := m_of.rf
  have hpre := m_pre2 (tx := tx) (len := len) (j := 7) (S := S) (lo := 0) (hi := (nI (x_cn S.1) - 1)) (lo2 := 1) (hi2 := 60) (by decide) (by decide) rfl (by decide) (fun _ => rfl) (by decide) hg
  rw [show x_k1 7 = 1 from rfl, show x_k2 7 = 2 from rfl] at hpre
  refine s_Mt_of rfl (by decide) (by exact Nat.le_of_ble_eq_true rfl) ?_
  refine g_aload_n dX9_numberCommand_0 rfl (by rfl) ?_
  refine g_callV_p (c_scan (hw.s0 hg) hK hn) dX9_numberCommand_1 (mX9_scan) rfl lX9_202 iX9_scan vX9_scan (by decide) (by omega) (by exact hm) rfl rfl rfl rfl (Nat.le_of_ble_eq_true rfl) (fun v9 h9 z9 => ?_)
  obtain ⟨rfl, hw, qoff⟩ := z9
  have hoff := hoff.trans qoff
  obtain ⟨I, w, hP, hfr, h21, h22, hD, htk⟩ := id hw
  have hm := hP.1.1
  have hx := hP.2.2.2.2.2.1
  have hg1 : (x_next tx len S).2.1 = 0 := hg
  refine g_aload_n dX9_numberCommand_4 rfl (by rfl) ?_
  refine g_callV_p (c_anItem hw hK hn) dX9_numberCommand_5 (mX9_anItem) rfl lX9_268 iX9_anItem vX9_anItem (by decide) (by omega) (by exact hm) rfl rfl rfl rfl (Nat.le_of_ble_eq_true rfl) (fun v9 h9 z9 => ?_)
  obtain ⟨rfl, hw, qoff⟩ := z9
  generalize hv_v1 : m_nv _ _ _ _ = v1
  have hoff := hoff.trans qoff
  have hw : m_ss h9 m I0 sn P tm rp tx len dp (x_nx tx len (m_nu tx 0 (nI (x_cn S.1) - 1) (x_next tx len S))) := hw
  obtain ⟨I, w, hP, hfr, h21, h22, hD, htk⟩ := id hw
  have hm := hP.1.1
  have hx := hP.2.2.2.2.2.1
  refine g_istore dX9_numberCommand_8 (by decide) ?_
  refine g_aload_n dX9_numberCommand_10 rfl (by rfl) ?_
  refine g_iload_n dX9_numberCommand_11 rfl (by rfl) ?_
  refine g_iload_n dX9_numberCommand_12 rfl (by rfl) ?_
  refine g_callV_p (c_number hw hK hn 1 60) dX9_numberCommand_13 (mX9_number) rfl lX9_211 iX9_number vX9_number (by decide) (by omega) (by exact hm) rfl rfl rfl rfl (Nat.le_of_ble_eq_true rfl) (fun v9 h9 z9 => ?_)
  obtain ⟨rfl, hw, qoff⟩ := z9
  generalize hv_v2 : m_nv _ _ _ _ = v2
  have hoff := hoff.trans qoff
  obtain ⟨I, w, hP, hfr, h21, h22, hD, htk⟩ := id hw
  have hm := hP.1.1
  have hx := hP.2.2.2.2.2.1
  refine g_istore dX9_numberCommand_16 (by decide) ?_
  refine g_aload_n dX9_numberCommand_18 rfl (by rfl) ?_
  refine g_iconst (x_bi true) dX9_numberCommand_19 (by rfl) ?_
  refine g_callV_p (c_ends hw hK hn true) dX9_numberCommand_20 (mX9_ends) rfl lX9_226 iX9_ends vX9_ends (by decide) (by omega) (by exact hm) rfl rfl rfl rfl (Nat.le_of_ble_eq_true rfl) (fun v9 h9 z9 => ?_)
  obtain ⟨rfl, hw, qoff⟩ := z9
  have hoff := hoff.trans qoff
  obtain ⟨I, w, hP, hfr, h21, h22, hD, htk⟩ := id hw
  have hm := hP.1.1
  have hx := hP.2.2.2.2.2.1
  refine g_if_eq (tgt := 35) dX9_numberCommand_23 (by decide) (fun c_23 => ?_) (fun c_23 => ?_)
  · have hno : ¬ (m_en true (x_nx tx len (m_nu tx 1 60 (x_nx tx len (m_nu tx 0 (nI (x_cn S.1) - 1) (x_next tx len S)))))).2.1 = 0 := fun z => by rw [if_pos z] at c_23; exact absurd c_23 (by decide)
    refine g_vreturn dX9_numberCommand_35 rfl ?_
    first | (refine ⟨rfl, rfl, ?_, hoff⟩; (rw [(((m_fin (b := true) hpre).1 hno).resolve_right (fun z => absurd z.1 (by decide)))]; exact hw)) | (rw [ei, ed] at hX; have e2 := congrArg Prod.snd hX; have e3 : (x_do tx len 7 S).2 = (d_put (x_nx tx len (m_nu tx 1 60 (x_nx tx len (m_nu tx 0 (nI (x_cn S.1) - 1) (x_next tx len S))))).1 0 (nI i).toNatClampNeg (nI d), (x_nx tx len (m_nu tx 1 60 (x_nx tx len (m_nu tx 0 (nI (x_cn S.1) - 1) (x_next tx len S))))).2) := e2; (refine ⟨rfl, rfl, ?_, hoff⟩; (rw [e3, nI_clamp (by omega)]; exact m_ss.act (Y := (x_nx tx len (m_nu tx 1 60 (x_nx tx len (m_nu tx 0 (nI (x_cn S.1) - 1) (x_next tx len S)))))) (σ1 := d_put _ 0 i (nI d)) hP hfr h21 h22 htk ⟨ok.put0 dl dh, (m_D_put (by omega)).tr (he.put (by omega))⟩)))
  · have hyes : (m_en true (x_nx tx len (m_nu tx 1 60 (x_nx tx len (m_nu tx 0 (nI (x_cn S.1) - 1) (x_next tx len S)))))).2.1 = 0 := Classical.byContradiction fun z => c_23 (if_neg z)
    obtain ⟨-, ⟨hA, hV, hB, hV2, hA1, hY1⟩, e9, hX⟩ := (m_fin (b := true) hpre).2 hyes
    rw [e9] at hw hD htk h21 h22
    obtain ⟨cnt, cp, ok, he⟩ := hD
    have okm := he.sy.ok ok
    have hM := hP.1
    have hw := hM.2
    have hc := okm.1
    have h14 := ok.2.1
    have hT := hP.2.2.2.2.2.2.2
    obtain ⟨i, ei, hi⟩ := x_arg_1 (tx := tx) (len := len) (S := S) (by rw [← hY1]; exact ok) hA
    have t1_v1 := hV.trans ei
    have t2_v1 := hv_v1.symm.trans t1_v1
    subst t2_v1
    obtain ⟨d, ed, dl, dh⟩ := x_argN (tx := tx) (len := len) (kd := 2) (S := (x_arg tx len 1 S).2) 1 60 (by decide) rfl (by decide) (by decide) hB
    have t1_v2 := hV2.trans ed
    have t2_v2 := hv_v2.symm.trans t1_v2
    subst t2_v2
    refine g_aload_n dX9_numberCommand_26 rfl (by rfl) ?_
    refine g_iload dX9_numberCommand_27 (by rfl) ?_
    refine g_iload_n dX9_numberCommand_29 rfl (by rfl) ?_
    refine g_iload dX9_numberCommand_30 (by rfl) ?_
    refine g_callV_p (c_X9_put hM hn i 0 (by omega) (nI d)) dX9_numberCommand_32 (mX9_put) rfl lX9_55 iX9_put vX9_put (by decide) (by omega) (by exact hm) rfl rfl rfl rfl (Nat.le_of_ble_eq_true rfl) (fun v9 h9 z9 => ?_)
    obtain ⟨rfl, hM, qoff⟩ := z9
    have hT := hT.off qoff (by omega)
    have hP := hP.q (qoff.wide (a' := m) (b' := m + 2) (by omega) (by omega)).l2 hM hT
    have hoff := hoff.w qoff (by omega)
    have hm := hM.1
    have hw := hM.2
    refine g_vreturn dX9_numberCommand_35 rfl ?_
    first | (refine ⟨rfl, rfl, ?_, hoff⟩; (rw [(((m_fin (b := true) hpre).1 hno).resolve_right (fun z => absurd z.1 (by decide)))]; exact hw)) | (rw [ei, ed] at hX; have e2 := congrArg Prod.snd hX; have e3 : (x_do tx len 7 S).2 = (d_put (x_nx tx len (m_nu tx 1 60 (x_nx tx len (m_nu tx 0 (nI (x_cn S.1) - 1) (x_next tx len S))))).1 0 (nI i).toNatClampNeg (nI d), (x_nx tx len (m_nu tx 1 60 (x_nx tx len (m_nu tx 0 (nI (x_cn S.1) - 1) (x_next tx len S))))).2) := e2; (refine ⟨rfl, rfl, ?_, hoff⟩; (rw [e3, nI_clamp (by omega)]; exact m_ss.act (Y := (x_nx tx len (m_nu tx 1 60 (x_nx tx len (m_nu tx 0 (nI (x_cn S.1) - 1) (x_next tx len S)))))) (σ1 := d_put _ 0 i (nI d)) hP hfr h21 h22 htk ⟨ok.put0 dl dh, (m_D_put (by omega)).tr (he.put (by omega))⟩)))

theorem c_one7 {h : s_H} {n m len dp : Nat} {I0 sn tm rp tx : Nat → Int32} {P : Nat → Nat → Int32} {S : x_S} (hw : m_ss h m I0 sn P tm rp tx len dp S) (hK : m_kx I0 tm tx len) (hn : m + 21 ≤ n) (hg : S.2.1 = 0) (hW : ∀ i, i < 12 → (decide (S.2.1 = 0) && x_is tx S.2.2.2.1 S.2.2.2.2.1 S.2.2.2.2.2.1 i) = decide (i = 9)) : s_Mt TX9_oneCommand 0 0 [.ref m] h n (s_rp n (fun v9 h1 => v9 = none ∧ m_ss h1 m I0 sn P tm rp tx len dp (x_do tx len 7 S).2 ∧ m_of h h1 m) s_no) := by
  obtain ⟨I, w, hP, hfr, h21, h22, hD, htk⟩ := id hw
  have hm := hP.1.1
  have hx := hP.2.2.2.2.2.1
  have hoff : m_of h h m := m_of.rf
  refine s_Mt_of rfl (by decide) (by exact Nat.le_of_ble_eq_true rfl) ?_
  refine g_aload_n dX9_oneCommand_0 rfl (by rfl) ?_
  refine g_callV_e (c_stateHere hw hK hn hW) dX9_oneCommand_1 (mX9_stateHere) rfl lX9_242 iX9_stateHere vX9_stateHere (by decide) (by omega) (by exact hm) rfl rfl rfl rfl (Nat.le_of_ble_eq_true rfl) ?_
  refine g_istore_n dX9_oneCommand_4 rfl (by decide) ?_
  refine g_iload_n dX9_oneCommand_5 rfl (by rfl) ?_
  refine g_iconst (-1) dX9_oneCommand_6 (by rfl) ?_
  refine g_icmp_eq (tgt := 37) dX9_oneCommand_7 (by decide) (fun _ => ?_) (fun c_7 => absurd rfl c_7)
  refine g_aload_n dX9_oneCommand_37 rfl (by rfl) ?_
  refine g_kstr (i := 2) (text := "item") (show ("BackupPlannerModel", 245, "item", 2) ∈ s_str by decide) dX9_oneCommand_38 ?_
  refine g_callV_e (c_X9_isWord hw hK hn (i := 2) (by decide)) dX9_oneCommand_40 (mX9_isWord) rfl lX9_222 iX9_isWord vX9_isWord (by decide) (by omega) (by exact hm) rfl rfl rfl rfl (Nat.le_of_ble_eq_true rfl) ?_
  rw [hW 2 (by decide)]
  refine g_if_eq (tgt := 101) dX9_oneCommand_43 (by decide) (fun _ => ?_) (fun c_43 => absurd rfl c_43)
  refine g_aload_n dX9_oneCommand_101 rfl (by rfl) ?_
  refine g_kstr (i := 6) (text := "remove") (show ("BackupPlannerModel", 247, "remove", 6) ∈ s_str by decide) dX9_oneCommand_102 ?_
  refine g_callV_e (c_X9_isWord hw hK hn (i := 6) (by decide)) dX9_oneCommand_104 (mX9_isWord) rfl lX9_222 iX9_isWord vX9_isWord (by decide) (by omega) (by exact hm) rfl rfl rfl rfl (Nat.le_of_ble_eq_true rfl) ?_
  rw [hW 6 (by decide)]
  refine g_if_eq (tgt := 135) dX9_oneCommand_107 (by decide) (fun _ => ?_) (fun c_107 => absurd rfl c_107)
  refine g_aload_n dX9_oneCommand_135 rfl (by rfl) ?_
  refine g_kstr (i := 7) (text := "capacity") (show ("BackupPlannerModel", 248, "capacity", 7) ∈ s_str by decide) dX9_oneCommand_136 ?_
  refine g_callV_e (c_X9_isWord hw hK hn (i := 7) (by decide)) dX9_oneCommand_138 (mX9_isWord) rfl lX9_222 iX9_isWord vX9_isWord (by decide) (by omega) (by exact hm) rfl rfl rfl rfl (Nat.le_of_ble_eq_true rfl) ?_
  rw [hW 7 (by decide)]
  refine g_if_eq (tgt := 174) dX9_oneCommand_141 (by decide) (fun _ => ?_) (fun c_141 => absurd rfl c_141)
  refine g_aload_n dX9_oneCommand_174 rfl (by rfl) ?_
  refine g_kstr (i := 8) (text := "backup") (show ("BackupPlannerModel", 250, "backup", 8) ∈ s_str by decide) dX9_oneCommand_175 ?_
  refine g_callV_e (c_X9_isWord hw hK hn (i := 8) (by decide)) dX9_oneCommand_177 (mX9_isWord) rfl lX9_222 iX9_isWord vX9_isWord (by decide) (by omega) (by exact hm) rfl rfl rfl rfl (Nat.le_of_ble_eq_true rfl) ?_
  rw [hW 8 (by decide)]
  refine g_if_eq (tgt := 212) dX9_oneCommand_180 (by decide) (fun _ => ?_) (fun c_180 => absurd rfl c_180)
  refine g_aload_n dX9_oneCommand_212 rfl (by rfl) ?_
  refine g_kstr (i := 11) (text := "keep") (show ("BackupPlannerModel", 255, "keep", 11) ∈ s_str by decide) dX9_oneCommand_213 ?_
  refine g_callV_e (c_X9_isWord hw hK hn (i := 11) (by decide)) dX9_oneCommand_215 (mX9_isWord) rfl lX9_222 iX9_isWord vX9_isWord (by decide) (by omega) (by exact hm) rfl rfl rfl rfl (Nat.le_of_ble_eq_true rfl) ?_
  rw [hW 11 (by decide)]
  refine g_if_eq (tgt := 267) dX9_oneCommand_218 (by decide) (fun _ => ?_) (fun c_218 => absurd rfl c_218)
  refine g_aload_n dX9_oneCommand_267 rfl (by rfl) ?_
  refine g_kstr (i := 9) (text := "size") (show ("BackupPlannerModel", 251, "size", 9) ∈ s_str by decide) dX9_oneCommand_268 ?_
  refine g_callV_e (c_X9_isWord hw hK hn (i := 9) (by decide)) dX9_oneCommand_270 (mX9_isWord) rfl lX9_222 iX9_isWord vX9_isWord (by decide) (by omega) (by exact hm) rfl rfl rfl rfl (Nat.le_of_ble_eq_true rfl) ?_
  rw [hW 9 (by decide)]
  refine g_if_eq (tgt := 287) dX9_oneCommand_273 (by decide) (fun c_273 => absurd c_273 (by decide)) (fun _ => ?_)
  refine g_aload_n dX9_oneCommand_276 rfl (by rfl) ?_
  refine g_iconst (nI 0) dX9_oneCommand_277 (by rfl) ?_
  refine g_iconst 1 dX9_oneCommand_278 (by rfl) ?_
  refine g_bipush 60 dX9_oneCommand_279 (by rfl) ?_
  refine g_callV_p (c_num7 hw hK hn hg) dX9_oneCommand_281 (mX9_numberCommand) rfl lX9_271 iX9_numberCommand vX9_numberCommand (by decide) (by omega) (by exact hm) rfl rfl rfl rfl (Nat.le_of_ble_eq_true rfl) (fun v9 h9 z9 => ?_)
  obtain ⟨rfl, hw, qoff⟩ := z9
  have hoff := hoff.trans qoff
  obtain ⟨I, w, hP, hfr, h21, h22, hD, htk⟩ := id hw
  have hm := hP.1.1
  have hx := hP.2.2.2.2.2.1
  refine g_goto (tgt := 296) dX9_oneCommand_284 (by decide) ?_
  refine g_vreturn dX9_oneCommand_296 rfl ?_
  exact ⟨rfl, rfl, hw, hoff⟩

theorem c_num8 {h : s_H} {n m len dp : Nat} {I0 sn tm rp tx : Nat → Int32} {P : Nat → Nat → Int32} {S : x_S} (hw : m_ss h m I0 sn P tm rp tx len dp S) (hK : m_kx I0 tm tx len) (hn : m + 21 ≤ n) (hg : S.2.1 = 0) : s_Mt TX9_numberCommand 0 0 [.ref m, .int (nI 1), .int 0, .int 999] h n (s_rp n (fun v9 h1 => v9 = none ∧ m_ss h1 m I0 sn P tm rp tx len dp (x_do tx len 8 S).2 ∧ m_of h h1 m) s_no) := by
  obtain ⟨I, w, hP, hfr, h21, h22, hD, htk⟩ := id hw
  have hm := hP.1.1
  have hx := hP.2.2.2.2.2.1
  have hoff : m_of h h m := m_of.rf
  have hpre := m_pre2 (tx := tx) (len := len) (j := 8) (S := S) (lo := 0) (hi := (nI (x_cn S.1) - 1)) (lo2 := 0) (hi2 := 999) (by decide) (by decide) rfl (by decide) (fun _ => rfl) (by decide) hg
  rw [show x_k1 8 = 1 from rfl, show x_k2 8 = 3 from rfl] at hpre
  refine s_Mt_of rfl (by decide) (by exact Nat.le_of_ble_eq_true rfl) ?_
  refine g_aload_n dX9_numberCommand_0 rfl (by rfl) ?_
  refine g_callV_p (c_scan (hw.s0 hg) hK hn) dX9_numberCommand_1 (mX9_scan) rfl lX9_202 iX9_scan vX9_scan (by decide) (by omega) (by exact hm) rfl rfl rfl rfl (Nat.le_of_ble_eq_true rfl) (fun v9 h9 z9 => ?_)
  obtain ⟨rfl, hw, qoff⟩ := z9
  have hoff := hoff.trans qoff
  obtain ⟨I, w, hP, hfr, h21, h22, hD, htk⟩ := id hw
  have hm := hP.1.1
  have hx := hP.2.2.2.2.2.1
  have hg1 : (x_next tx len S).2.1 = 0 := hg
  refine g_aload_n dX9_numberCommand_4 rfl (by rfl) ?_
  refine g_callV_p (c_anItem hw hK hn) dX9_numberCommand_5 (mX9_anItem) rfl lX9_268 iX9_anItem vX9_anItem (by decide) (by omega) (by exact hm) rfl rfl rfl rfl (Nat.le_of_ble_eq_true rfl) (fun v9 h9 z9 => ?_)
  obtain ⟨rfl, hw, qoff⟩ := z9
  generalize hv_v1 : m_nv _ _ _ _ = v1
  have hoff := hoff.trans qoff
  have hw : m_ss h9 m I0 sn P tm rp tx len dp (x_nx tx len (m_nu tx 0 (nI (x_cn S.1) - 1) (x_next tx len S))) := hw
  obtain ⟨I, w, hP, hfr, h21, h22, hD, htk⟩ := id hw
  have hm := hP.1.1
  have hx := hP.2.2.2.2.2.1
  refine g_istore dX9_numberCommand_8 (by decide) ?_
  refine g_aload_n dX9_numberCommand_10 rfl (by rfl) ?_
  refine g_iload_n dX9_numberCommand_11 rfl (by rfl) ?_
  refine g_iload_n dX9_numberCommand_12 rfl (by rfl) ?_
  refine g_callV_p (c_number hw hK hn 0 999) dX9_numberCommand_13 (mX9_number) rfl lX9_211 iX9_number vX9_number (by decide) (by omega) (by exact hm) rfl rfl rfl rfl (Nat.le_of_ble_eq_true rfl) (fun v9 h9 z9 => ?_)
  obtain ⟨rfl, hw, qoff⟩ := z9
  generalize hv_v2 : m_nv _ _ _ _ = v2
  have hoff := hoff.trans qoff
  obtain ⟨I, w, hP, hfr, h21, h22, hD, htk⟩ := id hw
  have hm := hP.1.1
  have hx := hP.2.2.2.2.2.1
  refine g_istore dX9_numberCommand_16 (by decide) ?_
  refine g_aload_n dX9_numberCommand_18 rfl (by rfl) ?_
  refine g_iconst (x_bi true) dX9_numberCommand_19 (by rfl) ?_
  refine g_callV_p (c_ends hw hK hn true) dX9_numberCommand_20 (mX9_ends) rfl lX9_226 iX9_ends vX9_ends (by decide) (by omega) (by exact hm) rfl rfl rfl rfl (Nat.le_of_ble_eq_true rfl) (fun v9 h9 z9 => ?_)
  obtain ⟨rfl, hw, qoff⟩ := z9
  have hoff := hoff.trans qoff
  obtain ⟨I, w, hP, hfr, h21, h22, hD, htk⟩ := id hw
  have hm := hP.1.1
  have hx := hP.2.2.2.2.2.1
  refine g_if_eq (tgt := 35) dX9_numberCommand_23 (by decide) (fun c_23 => ?_) (fun c_23 => ?_)
  · have hno : ¬ (m_en true (x_nx tx len (m_nu tx 0 999 (x_nx tx len (m_nu tx 0 (nI (x_cn S.1) - 1) (x_next tx len S)))))).2.1 = 0 := fun z => by rw [if_pos z] at c_23; exact absurd c_23 (by decide)
    refine g_vreturn dX9_numberCommand_35 rfl ?_
    first | (refine ⟨rfl, rfl, ?_, hoff⟩; (rw [(((m_fin (b := true) hpre).1 hno).resolve_right (fun z => absurd z.1 (by decide)))]; exact hw)) | (rw [ei, ed] at hX; have e2 := congrArg Prod.snd hX; have e3 : (x_do tx len 8 S).2 = (d_put (x_nx tx len (m_nu tx 0 999 (x_nx tx len (m_nu tx 0 (nI (x_cn S.1) - 1) (x_next tx len S))))).1 1 (nI i).toNatClampNeg (nI d), (x_nx tx len (m_nu tx 0 999 (x_nx tx len (m_nu tx 0 (nI (x_cn S.1) - 1) (x_next tx len S))))).2) := e2; (refine ⟨rfl, rfl, ?_, hoff⟩; (rw [e3, nI_clamp (by omega)]; exact m_ss.act (Y := (x_nx tx len (m_nu tx 0 999 (x_nx tx len (m_nu tx 0 (nI (x_cn S.1) - 1) (x_next tx len S)))))) (σ1 := d_put _ 1 i (nI d)) hP hfr h21 h22 htk ⟨ok.put1 dh, (m_D_put (by omega)).tr (he.put (by omega))⟩)))
  · have hyes : (m_en true (x_nx tx len (m_nu tx 0 999 (x_nx tx len (m_nu tx 0 (nI (x_cn S.1) - 1) (x_next tx len S)))))).2.1 = 0 := Classical.byContradiction fun z => c_23 (if_neg z)
    obtain ⟨-, ⟨hA, hV, hB, hV2, hA1, hY1⟩, e9, hX⟩ := (m_fin (b := true) hpre).2 hyes
    rw [e9] at hw hD htk h21 h22
    obtain ⟨cnt, cp, ok, he⟩ := hD
    have okm := he.sy.ok ok
    have hM := hP.1
    have hw := hM.2
    have hc := okm.1
    have h14 := ok.2.1
    have hT := hP.2.2.2.2.2.2.2
    obtain ⟨i, ei, hi⟩ := x_arg_1 (tx := tx) (len := len) (S := S) (by rw [← hY1]; exact ok) hA
    have t1_v1 := hV.trans ei
    have t2_v1 := hv_v1.symm.trans t1_v1
    subst t2_v1
    obtain ⟨d, ed, dl, dh⟩ := x_argN (tx := tx) (len := len) (kd := 3) (S := (x_arg tx len 1 S).2) 0 999 (by decide) rfl (by decide) (by decide) hB
    have t1_v2 := hV2.trans ed
    have t2_v2 := hv_v2.symm.trans t1_v2
    subst t2_v2
    refine g_aload_n dX9_numberCommand_26 rfl (by rfl) ?_
    refine g_iload dX9_numberCommand_27 (by rfl) ?_
    refine g_iload_n dX9_numberCommand_29 rfl (by rfl) ?_
    refine g_iload dX9_numberCommand_30 (by rfl) ?_
    refine g_callV_p (c_X9_put hM hn i 1 (by omega) (nI d)) dX9_numberCommand_32 (mX9_put) rfl lX9_55 iX9_put vX9_put (by decide) (by omega) (by exact hm) rfl rfl rfl rfl (Nat.le_of_ble_eq_true rfl) (fun v9 h9 z9 => ?_)
    obtain ⟨rfl, hM, qoff⟩ := z9
    have hT := hT.off qoff (by omega)
    have hP := hP.q (qoff.wide (a' := m) (b' := m + 2) (by omega) (by omega)).l2 hM hT
    have hoff := hoff.w qoff (by omega)
    have hm := hM.1
    have hw := hM.2
    refine g_vreturn dX9_numberCommand_35 rfl ?_
    first | (refine ⟨rfl, rfl, ?_, hoff⟩; (rw [(((m_fin (b := true) hpre).1 hno).resolve_right (fun z => absurd z.1 (by decide)))]; exact hw)) | (rw [ei, ed] at hX; have e2 := congrArg Prod.snd hX; have e3 : (x_do tx len 8 S).2 = (d_put (x_nx tx len (m_nu tx 0 999 (x_nx tx len (m_nu tx 0 (nI (x_cn S.1) - 1) (x_next tx len S))))).1 1 (nI i).toNatClampNeg (nI d), (x_nx tx len (m_nu tx 0 999 (x_nx tx len (m_nu tx 0 (nI (x_cn S.1) - 1) (x_next tx len S))))).2) := e2; (refine ⟨rfl, rfl, ?_, hoff⟩; (rw [e3, nI_clamp (by omega)]; exact m_ss.act (Y := (x_nx tx len (m_nu tx 0 999 (x_nx tx len (m_nu tx 0 (nI (x_cn S.1) - 1) (x_next tx len S)))))) (σ1 := d_put _ 1 i (nI d)) hP hfr h21 h22 htk ⟨ok.put1 dh, (m_D_put (by omega)).tr (he.put (by omega))⟩)))

theorem c_one8 {h : s_H} {n m len dp : Nat} {I0 sn tm rp tx : Nat → Int32} {P : Nat → Nat → Int32} {S : x_S} (hw : m_ss h m I0 sn P tm rp tx len dp S) (hK : m_kx I0 tm tx len) (hn : m + 21 ≤ n) (hg : S.2.1 = 0) (hW : ∀ i, i < 12 → (decide (S.2.1 = 0) && x_is tx S.2.2.2.1 S.2.2.2.2.1 S.2.2.2.2.2.1 i) = decide (i = 10)) : s_Mt TX9_oneCommand 0 0 [.ref m] h n (s_rp n (fun v9 h1 => v9 = none ∧ m_ss h1 m I0 sn P tm rp tx len dp (x_do tx len 8 S).2 ∧ m_of h h1 m) s_no) := by
  obtain ⟨I, w, hP, hfr, h21, h22, hD, htk⟩ := id hw
  have hm := hP.1.1
  have hx := hP.2.2.2.2.2.1
  have hoff : m_of h h m := m_of.rf
  refine s_Mt_of rfl (by decide) (by exact Nat.le_of_ble_eq_true rfl) ?_
  refine g_aload_n dX9_oneCommand_0 rfl (by rfl) ?_
  refine g_callV_e (c_stateHere hw hK hn hW) dX9_oneCommand_1 (mX9_stateHere) rfl lX9_242 iX9_stateHere vX9_stateHere (by decide) (by omega) (by exact hm) rfl rfl rfl rfl (Nat.le_of_ble_eq_true rfl) ?_
  refine g_istore_n dX9_oneCommand_4 rfl (by decide) ?_
  refine g_iload_n dX9_oneCommand_5 rfl (by rfl) ?_
  refine g_iconst (-1) dX9_oneCommand_6 (by rfl) ?_
  refine g_icmp_eq (tgt := 37) dX9_oneCommand_7 (by decide) (fun _ => ?_) (fun c_7 => absurd rfl c_7)
  refine g_aload_n dX9_oneCommand_37 rfl (by rfl) ?_
  refine g_kstr (i := 2) (text := "item") (show ("BackupPlannerModel", 245, "item", 2) ∈ s_str by decide) dX9_oneCommand_38 ?_
  refine g_callV_e (c_X9_isWord hw hK hn (i := 2) (by decide)) dX9_oneCommand_40 (mX9_isWord) rfl lX9_222 iX9_isWord vX9_isWord (by decide) (by omega) (by exact hm) rfl rfl rfl rfl (Nat.le_of_ble_eq_true rfl) ?_
  rw [hW 2 (by decide)]
  refine g_if_eq (tgt := 101) dX9_oneCommand_43 (by decide) (fun _ => ?_) (fun c_43 => absurd rfl c_43)
  refine g_aload_n dX9_oneCommand_101 rfl (by rfl) ?_
  refine g_kstr (i := 6) (text := "remove") (show ("BackupPlannerModel", 247, "remove", 6) ∈ s_str by decide) dX9_oneCommand_102 ?_
  refine g_callV_e (c_X9_isWord hw hK hn (i := 6) (by decide)) dX9_oneCommand_104 (mX9_isWord) rfl lX9_222 iX9_isWord vX9_isWord (by decide) (by omega) (by exact hm) rfl rfl rfl rfl (Nat.le_of_ble_eq_true rfl) ?_
  rw [hW 6 (by decide)]
  refine g_if_eq (tgt := 135) dX9_oneCommand_107 (by decide) (fun _ => ?_) (fun c_107 => absurd rfl c_107)
  refine g_aload_n dX9_oneCommand_135 rfl (by rfl) ?_
  refine g_kstr (i := 7) (text := "capacity") (show ("BackupPlannerModel", 248, "capacity", 7) ∈ s_str by decide) dX9_oneCommand_136 ?_
  refine g_callV_e (c_X9_isWord hw hK hn (i := 7) (by decide)) dX9_oneCommand_138 (mX9_isWord) rfl lX9_222 iX9_isWord vX9_isWord (by decide) (by omega) (by exact hm) rfl rfl rfl rfl (Nat.le_of_ble_eq_true rfl) ?_
  rw [hW 7 (by decide)]
  refine g_if_eq (tgt := 174) dX9_oneCommand_141 (by decide) (fun _ => ?_) (fun c_141 => absurd rfl c_141)
  refine g_aload_n dX9_oneCommand_174 rfl (by rfl) ?_
  refine g_kstr (i := 8) (text := "backup") (show ("BackupPlannerModel", 250, "backup", 8) ∈ s_str by decide) dX9_oneCommand_175 ?_
  refine g_callV_e (c_X9_isWord hw hK hn (i := 8) (by decide)) dX9_oneCommand_177 (mX9_isWord) rfl lX9_222 iX9_isWord vX9_isWord (by decide) (by omega) (by exact hm) rfl rfl rfl rfl (Nat.le_of_ble_eq_true rfl) ?_
  rw [hW 8 (by decide)]
  refine g_if_eq (tgt := 212) dX9_oneCommand_180 (by decide) (fun _ => ?_) (fun c_180 => absurd rfl c_180)
  refine g_aload_n dX9_oneCommand_212 rfl (by rfl) ?_
  refine g_kstr (i := 11) (text := "keep") (show ("BackupPlannerModel", 255, "keep", 11) ∈ s_str by decide) dX9_oneCommand_213 ?_
  refine g_callV_e (c_X9_isWord hw hK hn (i := 11) (by decide)) dX9_oneCommand_215 (mX9_isWord) rfl lX9_222 iX9_isWord vX9_isWord (by decide) (by omega) (by exact hm) rfl rfl rfl rfl (Nat.le_of_ble_eq_true rfl) ?_
  rw [hW 11 (by decide)]
  refine g_if_eq (tgt := 267) dX9_oneCommand_218 (by decide) (fun _ => ?_) (fun c_218 => absurd rfl c_218)
  refine g_aload_n dX9_oneCommand_267 rfl (by rfl) ?_
  refine g_kstr (i := 9) (text := "size") (show ("BackupPlannerModel", 251, "size", 9) ∈ s_str by decide) dX9_oneCommand_268 ?_
  refine g_callV_e (c_X9_isWord hw hK hn (i := 9) (by decide)) dX9_oneCommand_270 (mX9_isWord) rfl lX9_222 iX9_isWord vX9_isWord (by decide) (by omega) (by exact hm) rfl rfl rfl rfl (Nat.le_of_ble_eq_true rfl) ?_
  rw [hW 9 (by decide)]
  refine g_if_eq (tgt := 287) dX9_oneCommand_273 (by decide) (fun _ => ?_) (fun c_273 => absurd rfl c_273)
  refine g_aload_n dX9_oneCommand_287 rfl (by rfl) ?_
  refine g_iconst (nI 1) dX9_oneCommand_288 (by rfl) ?_
  refine g_iconst 0 dX9_oneCommand_289 (by rfl) ?_
  refine g_sipush 999 dX9_oneCommand_290 (by rfl) ?_
  refine g_callV_p (c_num8 hw hK hn hg) dX9_oneCommand_293 (mX9_numberCommand) rfl lX9_271 iX9_numberCommand vX9_numberCommand (by decide) (by omega) (by exact hm) rfl rfl rfl rfl (Nat.le_of_ble_eq_true rfl) (fun v9 h9 z9 => ?_)
  obtain ⟨rfl, hw, qoff⟩ := z9
  have hoff := hoff.trans qoff
  obtain ⟨I, w, hP, hfr, h21, h22, hD, htk⟩ := id hw
  have hm := hP.1.1
  have hx := hP.2.2.2.2.2.1
  refine g_vreturn dX9_oneCommand_296 rfl ?_
  exact ⟨rfl, rfl, hw, hoff⟩

theorem c_oneCommand {h : s_H} {n m len dp : Nat} {I0 sn tm rp tx : Nat → Int32} {P : Nat → Nat → Int32} {S : x_S} (hw : m_ss h m I0 sn P tm rp tx len dp S) (hK : m_kx I0 tm tx len) (hn : m + 21 ≤ n) (hg : S.2.1 = 0) {j : Nat} (hj : j < 10) (hW : ∀ i, i < 12 → (decide (S.2.1 = 0) && x_is tx S.2.2.2.1 S.2.2.2.2.1 S.2.2.2.2.2.1 i) = decide (i = 2 + j)) : s_Mt TX9_oneCommand 0 0 [.ref m] h n (s_rp n (fun v9 h1 => v9 = none ∧ m_ss h1 m I0 sn P tm rp tx len dp (x_do tx len j S).2 ∧ m_of h h1 m) s_no) :=
  match j, hj with
  | 0, _ => c_one0 hw hK hn hg hW
  | 1, _ => c_one1 hw hK hn hg hW
  | 2, _ => c_one2 hw hK hn hg hW
  | 3, _ => c_one3 hw hK hn hg hW
  | 4, _ => c_one4 hw hK hn hg hW
  | 5, _ => c_one5 hw hK hn hg hW
  | 6, _ => c_one6 hw hK hn hg hW
  | 7, _ => c_one7 hw hK hn hg hW
  | 8, _ => c_one8 hw hK hn hg hW
  | 9, _ => c_one9 hw hK hn hg hW