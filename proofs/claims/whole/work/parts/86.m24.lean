/-! THE MODEL: commands told apart -/
theorem k_b_uq : ∀ i, i < 12 → ∀ j, j < 12 → i ≠ j → s_len.getD i 0 = s_len.getD j 0 → ∃ k, k < s_len.getD i 0 ∧ k_b i k ≠ k_b j k := by
  have h : ∀ i, i < 12 → ∀ j, j < 12 → i ≠ j → s_len.getD i 0 = s_len.getD j 0 → (List.range (s_len.getD i 0)).any (fun k => decide (k_b i k ≠ k_b j k)) = true := by decide +kernel
  intro i hi j hj hij hl
  obtain ⟨k, hk, hk2⟩ := List.any_eq_true.mp (h i hi j hj hij hl)
  exact ⟨k, List.mem_range.mp hk, of_decide_eq_true hk2⟩
theorem x_mt_all {tx : Nat → Int32} {t i : Nat} : ∀ r j, x_mt tx t i r j = true → ∀ k, j ≤ k → k < j + r → tx (t + k) = k_b i k
  | 0, j, _, k, h1, h2 => by omega
  | r + 1, j, h, k, h1, h2 => by
    unfold x_mt at h
    split at h
    · rename_i e
      by_cases z : k = j
      · rw [z]; exact e
      · exact x_mt_all r (j + 1) h k (by omega) (by omega)
    · cases h
theorem x_is_uq {tx : Nat → Int32} {q t i j : Nat} {tk : Int32} (hi : i < 12) (hj : j < 12) (h1 : x_is tx q tk t i = true) (h2 : x_is tx q tk t j = true) : i = j := by
  apply Classical.byContradiction
  intro hij
  unfold x_is at h1 h2
  simp only [Bool.and_eq_true, decide_eq_true_eq] at h1 h2
  obtain ⟨k, hk, hne⟩ := k_b_uq i hi j hj hij (h1.1.2.symm.trans h2.1.2)
  exact hne ((x_mt_all _ _ h1.2 k (by omega) (by omega)).symm.trans (x_mt_all _ _ h2.2 k (by omega) (by have := h1.1.2.symm.trans h2.1.2; omega)))
/-- the number of the word, 12 if it is none -/
theorem x_wd {tx : Nat → Int32} {q t : Nat} {tk : Int32} (b : Bool) : ∃ W, W ≤ 12 ∧ ∀ i, i < 12 → (b && x_is tx q tk t i) = decide (i = W) := by
  by_cases h : ∃ i, i < 12 ∧ (b && x_is tx q tk t i) = true
  · obtain ⟨i, hi, h1⟩ := h
    refine ⟨i, by omega, fun j hj => ?_⟩
    by_cases e : j = i
    · rw [e, h1, decide_eq_true rfl]
    · rw [decide_eq_false e]
      cases hx : (b && x_is tx q tk t j) with
      | false => rfl
      | true =>
        rw [Bool.and_eq_true] at h1 hx
        exact absurd (x_is_uq hj hi hx.2 h1.2) e
  · refine ⟨12, by omega, fun j hj => ?_⟩
    rw [decide_eq_false (by omega)]
    cases hx : (b && x_is tx q tk t j) with
    | false => rfl
    | true => exact absurd ⟨j, hj, hx⟩ h
theorem x_fc_n {tx : Nat → Int32} {q t : Nat} {tk : Int32} : ∀ r j, (∀ k, j ≤ k → k < j + r → x_is tx q tk t (2 + k) = false) → x_fc tx q tk t r j = none
  | 0, j, _ => rfl
  | r + 1, j, h => by
    unfold x_fc
    rw [if_neg (by rw [h j (by omega) (by omega)]; decide), x_fc_n r (j + 1) (fun k a b => h k (by omega) (by omega))]
theorem x_fc_s {tx : Nat → Int32} {q t w : Nat} {tk : Int32} (hw : x_is tx q tk t (2 + w) = true) : ∀ r j, j ≤ w → w < j + r → (∀ k, j ≤ k → k < w → x_is tx q tk t (2 + k) = false) → x_fc tx q tk t r j = some w
  | 0, j, h1, h2, _ => by omega
  | r + 1, j, h1, h2, h => by
    unfold x_fc
    by_cases e : j = w
    · rw [e, if_pos hw]
    · rw [if_neg (by rw [h j (by omega) (by omega)]; decide)]
      exact x_fc_s hw r (j + 1) (by omega) (by omega) (fun k a b => h k (by omega) b)
theorem x_fc_W {tx : Nat → Int32} {q t W : Nat} {tk : Int32} (hW : ∀ i, i < 12 → x_is tx q tk t i = decide (i = W)) : x_fc tx q tk t 10 0 = if 2 ≤ W ∧ W < 12 then some (W - 2) else none := by
  split
  · rename_i h
    exact x_fc_s (by rw [hW _ (by omega)]; exact decide_eq_true (by omega)) 10 0 (by omega) (by omega) (fun k a b => by rw [hW _ (by omega)]; exact decide_eq_false (by omega))
  · rename_i h
    exact x_fc_n 10 0 (fun k a b => by rw [hW _ (by omega)]; exact decide_eq_false (by omega))
def m_sth (W : Nat) : Int32 := if W = 3 then 1 else if W = 4 then 2 else if W = 5 then 0 else -1
theorem m_sth_n {W : Nat} : m_sth W = -1 ↔ ¬ (3 ≤ W ∧ W ≤ 5) := by
  unfold m_sth
  constructor
  · intro h z
    have : W = 3 ∨ W = 4 ∨ W = 5 := by omega
    rcases this with e | e | e <;> (subst e; exact absurd h (by decide))
  · intro h
    rw [if_neg (by omega), if_neg (by omega), if_neg (by omega)]

theorem c_stateHere {h : s_H} {n m len dp : Nat} {I0 sn tm rp tx : Nat → Int32} {P : Nat → Nat → Int32} {S : x_S} (hw : m_ss h m I0 sn P tm rp tx len dp S) (hK : m_kx I0 tm tx len) (hn : m + 21 ≤ n) {W : Nat} (hW : ∀ i, i < 12 → (decide (S.2.1 = 0) && x_is tx S.2.2.2.1 S.2.2.2.2.1 S.2.2.2.2.2.1 i) = decide (i = W)) : s_Mt TX9_stateHere 0 0 [.ref m] h n (s_re (some (.int (m_sth W))) h n) := by
  obtain ⟨I, w, hP, hfr, h21, h22, hD, htk⟩ := id hw
  have hm := hP.1.1
  have hx := hP.2.2.2.2.2.1
  have hoff : m_of h h m := m_of.rf
  refine s_Mt_of rfl (by decide) (by exact Nat.le_of_ble_eq_true rfl) ?_
  refine g_aload_n dX9_stateHere_0 rfl (by rfl) ?_
  refine g_kstr (i := 3) (text := "pin") (show ("BackupPlannerModel", 236, "pin", 3) ∈ s_str by decide) dX9_stateHere_1 ?_
  refine g_callV_e (c_X9_isWord hw hK hn (i := 3) (by decide)) dX9_stateHere_3 (mX9_isWord) rfl lX9_222 iX9_isWord vX9_isWord (by decide) (by omega) (by exact hm) rfl rfl rfl rfl (Nat.le_of_ble_eq_true rfl) ?_
  rw [hW 3 (by decide)]
  refine g_if_eq (tgt := 11) dX9_stateHere_6 (by decide) (fun c_6 => ?_) (fun c_6 => ?_)
  · have n3 : ¬ W = 3 := fun z => by rw [decide_eq_true z.symm] at c_6; exact absurd c_6 (by decide)
    refine g_aload_n dX9_stateHere_11 rfl (by rfl) ?_
    refine g_kstr (i := 4) (text := "exclude") (show ("BackupPlannerModel", 238, "exclude", 4) ∈ s_str by decide) dX9_stateHere_12 ?_
    refine g_callV_e (c_X9_isWord hw hK hn (i := 4) (by decide)) dX9_stateHere_14 (mX9_isWord) rfl lX9_222 iX9_isWord vX9_isWord (by decide) (by omega) (by exact hm) rfl rfl rfl rfl (Nat.le_of_ble_eq_true rfl) ?_
    rw [hW 4 (by decide)]
    refine g_if_eq (tgt := 22) dX9_stateHere_17 (by decide) (fun c_17 => ?_) (fun c_17 => ?_)
    · have n4 : ¬ W = 4 := fun z => by rw [decide_eq_true z.symm] at c_17; exact absurd c_17 (by decide)
      refine g_aload_n dX9_stateHere_22 rfl (by rfl) ?_
      refine g_kstr (i := 5) (text := "release") (show ("BackupPlannerModel", 240, "release", 5) ∈ s_str by decide) dX9_stateHere_23 ?_
      refine g_callV_e (c_X9_isWord hw hK hn (i := 5) (by decide)) dX9_stateHere_25 (mX9_isWord) rfl lX9_222 iX9_isWord vX9_isWord (by decide) (by omega) (by exact hm) rfl rfl rfl rfl (Nat.le_of_ble_eq_true rfl) ?_
      rw [hW 5 (by decide)]
      refine g_if_eq (tgt := 35) dX9_stateHere_28 (by decide) (fun c_28 => ?_) (fun c_28 => ?_)
      · have n5 : ¬ W = 5 := fun z => by rw [decide_eq_true z.symm] at c_28; exact absurd c_28 (by decide)
        refine g_iconst (-1) dX9_stateHere_35 (by rfl) ?_
        refine g_ireturn dX9_stateHere_36 rfl ?_
        first | (have e9 := (m_sth_n (W := W)).mpr (by omega); (rw [e9]; exact ⟨rfl, rfl, rfl⟩)) | (subst yW; exact ⟨rfl, rfl, rfl⟩)
      · have yW : W = 5 := Classical.byContradiction fun z => c_28 (by rw [decide_eq_false (fun y => z y.symm)]; rfl)
        refine g_iconst 0 dX9_stateHere_31 (by rfl) ?_
        refine g_goto (tgt := 36) dX9_stateHere_32 (by decide) ?_
        refine g_ireturn dX9_stateHere_36 rfl ?_
        first | (have e9 := (m_sth_n (W := W)).mpr (by omega); (rw [e9]; exact ⟨rfl, rfl, rfl⟩)) | (subst yW; exact ⟨rfl, rfl, rfl⟩)
    · have yW : W = 4 := Classical.byContradiction fun z => c_17 (by rw [decide_eq_false (fun y => z y.symm)]; rfl)
      refine g_iconst 2 dX9_stateHere_20 (by rfl) ?_
      refine g_ireturn dX9_stateHere_21 rfl ?_
      exact ⟨by rw [yW]; rfl, rfl, rfl⟩
  · have yW : W = 3 := Classical.byContradiction fun z => c_6 (by rw [decide_eq_false (fun y => z y.symm)]; rfl)
    refine g_iconst 1 dX9_stateHere_9 (by rfl) ?_
    refine g_ireturn dX9_stateHere_10 rfl ?_
    exact ⟨by rw [yW]; rfl, rfl, rfl⟩

theorem c_isCommand {h : s_H} {n m len dp : Nat} {I0 sn tm rp tx : Nat → Int32} {P : Nat → Nat → Int32} {S : x_S} (hw : m_ss h m I0 sn P tm rp tx len dp S) (hK : m_kx I0 tm tx len) (hn : m + 21 ≤ n) {W : Nat} (hW : ∀ i, i < 12 → (decide (S.2.1 = 0) && x_is tx S.2.2.2.1 S.2.2.2.2.1 S.2.2.2.2.2.1 i) = decide (i = W)) (hW12 : W ≤ 12) : s_Mt TX9_isCommand 0 0 [.ref m] h n (s_re (some (.int (if 2 ≤ W ∧ W < 12 then 1 else 0))) h n) := by
  obtain ⟨I, w, hP, hfr, h21, h22, hD, htk⟩ := id hw
  have hm := hP.1.1
  have hx := hP.2.2.2.2.2.1
  have hoff : m_of h h m := m_of.rf
  have tail : ∀ (b : Bool), (b = true ↔ (2 ≤ W ∧ W < 8)) → s_G TX9_isCommand (s_re (some (.int (if 2 ≤ W ∧ W < 12 then 1 else 0))) h n) 41 (s_lvs [(0, .ref m), (1, .int (x_bi b))]) [] h n 0 0 := by
    intro b hbi
    refine g_iload_n dX9_isCommand_41 rfl (by rfl) ?_
    refine g_if_ne (tgt := 81) dX9_isCommand_42 (by decide) (fun c_42 => ?_) (fun c_42 => ?_)
    · have hb := hbi.mp (x_bi_t c_42)
      refine g_iconst 1 dX9_isCommand_81 (by rfl) ?_
      refine g_goto (tgt := 86) dX9_isCommand_82 (by decide) ?_
      refine g_zreturn dX9_isCommand_86 rfl (by decide) ?_
      first | (rw [if_pos (by omega)]; exact ⟨rfl, rfl, rfl⟩) | (rw [if_neg (by omega)]; exact ⟨rfl, rfl, rfl⟩)
    · have hb : ¬ (2 ≤ W ∧ W < 8) := fun z => x_bi_f c_42 (hbi.mpr z)
      refine g_aload_n dX9_isCommand_45 rfl (by rfl) ?_
      refine g_kstr (i := 8) (text := "backup") (show ("BackupPlannerModel", 250, "backup", 8) ∈ s_str by decide) dX9_isCommand_46 ?_
      refine g_callV_e (c_X9_isWord hw hK hn (i := 8) (by decide)) dX9_isCommand_48 (mX9_isWord) rfl lX9_222 iX9_isWord vX9_isWord (by decide) (by omega) (by exact hm) rfl rfl rfl rfl (Nat.le_of_ble_eq_true rfl) ?_
      rw [hW 8 (by decide)]
      refine g_if_ne (tgt := 81) dX9_isCommand_51 (by decide) (fun c_51 => ?_) (fun c_51 => ?_)
      · have yW : W = 8 := Classical.byContradiction fun z => c_51 (by rw [decide_eq_false (fun y => z y.symm)]; rfl)
        refine g_iconst 1 dX9_isCommand_81 (by rfl) ?_
        refine g_goto (tgt := 86) dX9_isCommand_82 (by decide) ?_
        refine g_zreturn dX9_isCommand_86 rfl (by decide) ?_
        first | (rw [if_pos (by omega)]; exact ⟨rfl, rfl, rfl⟩) | (rw [if_neg (by omega)]; exact ⟨rfl, rfl, rfl⟩)
      · have n8 : ¬ W = 8 := fun z => by rw [decide_eq_true z.symm] at c_51; exact absurd c_51 (by decide)
        refine g_aload_n dX9_isCommand_54 rfl (by rfl) ?_
        refine g_kstr (i := 9) (text := "size") (show ("BackupPlannerModel", 251, "size", 9) ∈ s_str by decide) dX9_isCommand_55 ?_
        refine g_callV_e (c_X9_isWord hw hK hn (i := 9) (by decide)) dX9_isCommand_57 (mX9_isWord) rfl lX9_222 iX9_isWord vX9_isWord (by decide) (by omega) (by exact hm) rfl rfl rfl rfl (Nat.le_of_ble_eq_true rfl) ?_
        rw [hW 9 (by decide)]
        refine g_if_ne (tgt := 81) dX9_isCommand_60 (by decide) (fun c_60 => ?_) (fun c_60 => ?_)
        · have yW : W = 9 := Classical.byContradiction fun z => c_60 (by rw [decide_eq_false (fun y => z y.symm)]; rfl)
          refine g_iconst 1 dX9_isCommand_81 (by rfl) ?_
          refine g_goto (tgt := 86) dX9_isCommand_82 (by decide) ?_
          refine g_zreturn dX9_isCommand_86 rfl (by decide) ?_
          first | (rw [if_pos (by omega)]; exact ⟨rfl, rfl, rfl⟩) | (rw [if_neg (by omega)]; exact ⟨rfl, rfl, rfl⟩)
        · have n9 : ¬ W = 9 := fun z => by rw [decide_eq_true z.symm] at c_60; exact absurd c_60 (by decide)
          refine g_aload_n dX9_isCommand_63 rfl (by rfl) ?_
          refine g_kstr (i := 10) (text := "value") (show ("BackupPlannerModel", 253, "value", 10) ∈ s_str by decide) dX9_isCommand_64 ?_
          refine g_callV_e (c_X9_isWord hw hK hn (i := 10) (by decide)) dX9_isCommand_66 (mX9_isWord) rfl lX9_222 iX9_isWord vX9_isWord (by decide) (by omega) (by exact hm) rfl rfl rfl rfl (Nat.le_of_ble_eq_true rfl) ?_
          rw [hW 10 (by decide)]
          refine g_if_ne (tgt := 81) dX9_isCommand_69 (by decide) (fun c_69 => ?_) (fun c_69 => ?_)
          · have yW : W = 10 := Classical.byContradiction fun z => c_69 (by rw [decide_eq_false (fun y => z y.symm)]; rfl)
            refine g_iconst 1 dX9_isCommand_81 (by rfl) ?_
            refine g_goto (tgt := 86) dX9_isCommand_82 (by decide) ?_
            refine g_zreturn dX9_isCommand_86 rfl (by decide) ?_
            first | (rw [if_pos (by omega)]; exact ⟨rfl, rfl, rfl⟩) | (rw [if_neg (by omega)]; exact ⟨rfl, rfl, rfl⟩)
          · have n10 : ¬ W = 10 := fun z => by rw [decide_eq_true z.symm] at c_69; exact absurd c_69 (by decide)
            refine g_aload_n dX9_isCommand_72 rfl (by rfl) ?_
            refine g_kstr (i := 11) (text := "keep") (show ("BackupPlannerModel", 255, "keep", 11) ∈ s_str by decide) dX9_isCommand_73 ?_
            refine g_callV_e (c_X9_isWord hw hK hn (i := 11) (by decide)) dX9_isCommand_75 (mX9_isWord) rfl lX9_222 iX9_isWord vX9_isWord (by decide) (by omega) (by exact hm) rfl rfl rfl rfl (Nat.le_of_ble_eq_true rfl) ?_
            rw [hW 11 (by decide)]
            refine g_if_eq (tgt := 85) dX9_isCommand_78 (by decide) (fun c_78 => ?_) (fun c_78 => ?_)
            · have n11 : ¬ W = 11 := fun z => by rw [decide_eq_true z.symm] at c_78; exact absurd c_78 (by decide)
              refine g_iconst 0 dX9_isCommand_85 (by rfl) ?_
              refine g_zreturn dX9_isCommand_86 rfl (by decide) ?_
              first | (rw [if_pos (by omega)]; exact ⟨rfl, rfl, rfl⟩) | (rw [if_neg (by omega)]; exact ⟨rfl, rfl, rfl⟩)
            · have yW : W = 11 := Classical.byContradiction fun z => c_78 (by rw [decide_eq_false (fun y => z y.symm)]; rfl)
              refine g_iconst 1 dX9_isCommand_81 (by rfl) ?_
              refine g_goto (tgt := 86) dX9_isCommand_82 (by decide) ?_
              refine g_zreturn dX9_isCommand_86 rfl (by decide) ?_
              first | (rw [if_pos (by omega)]; exact ⟨rfl, rfl, rfl⟩) | (rw [if_neg (by omega)]; exact ⟨rfl, rfl, rfl⟩)
  refine s_Mt_of rfl (by decide) (by exact Nat.le_of_ble_eq_true rfl) ?_
  refine g_aload_n dX9_isCommand_0 rfl (by rfl) ?_
  refine g_callV_e (c_stateHere hw hK hn hW) dX9_isCommand_1 (mX9_stateHere) rfl lX9_242 iX9_stateHere vX9_stateHere (by decide) (by omega) (by exact hm) rfl rfl rfl rfl (Nat.le_of_ble_eq_true rfl) ?_
  refine g_iconst (-1) dX9_isCommand_4 (by rfl) ?_
  refine g_icmp_ne (tgt := 35) dX9_isCommand_5 (by decide) (fun c_5 => ?_) (fun c_5 => ?_)
  · have ySt : 3 ≤ W ∧ W ≤ 5 := Classical.byContradiction fun z => c_5 (m_sth_n.mpr z)
    refine g_iconst 1 dX9_isCommand_35 (by rfl) ?_
    refine g_goto (tgt := 40) dX9_isCommand_36 (by decide) ?_
    first
    | (refine g_istore_n dX9_isCommand_40 rfl (by decide) ?_; exact g_lv (tail true ⟨fun _ => by omega, fun _ => rfl⟩) ⟨rfl, rfl, trivial⟩)
    | (refine g_istore_n dX9_isCommand_40 rfl (by decide) ?_; exact g_lv (tail false ⟨fun z => absurd z (by decide), fun z => absurd z (by omega)⟩) ⟨rfl, rfl, trivial⟩)
  · have nSt : ¬ (3 ≤ W ∧ W ≤ 5) := m_sth_n.mp c_5
    refine g_aload_n dX9_isCommand_8 rfl (by rfl) ?_
    refine g_kstr (i := 2) (text := "item") (show ("BackupPlannerModel", 245, "item", 2) ∈ s_str by decide) dX9_isCommand_9 ?_
    refine g_callV_e (c_X9_isWord hw hK hn (i := 2) (by decide)) dX9_isCommand_11 (mX9_isWord) rfl lX9_222 iX9_isWord vX9_isWord (by decide) (by omega) (by exact hm) rfl rfl rfl rfl (Nat.le_of_ble_eq_true rfl) ?_
    rw [hW 2 (by decide)]
    refine g_if_ne (tgt := 35) dX9_isCommand_14 (by decide) (fun c_14 => ?_) (fun c_14 => ?_)
    · have yW : W = 2 := Classical.byContradiction fun z => c_14 (by rw [decide_eq_false (fun y => z y.symm)]; rfl)
      refine g_iconst 1 dX9_isCommand_35 (by rfl) ?_
      refine g_goto (tgt := 40) dX9_isCommand_36 (by decide) ?_
      first
      | (refine g_istore_n dX9_isCommand_40 rfl (by decide) ?_; exact g_lv (tail true ⟨fun _ => by omega, fun _ => rfl⟩) ⟨rfl, rfl, trivial⟩)
      | (refine g_istore_n dX9_isCommand_40 rfl (by decide) ?_; exact g_lv (tail false ⟨fun z => absurd z (by decide), fun z => absurd z (by omega)⟩) ⟨rfl, rfl, trivial⟩)
    · have n2 : ¬ W = 2 := fun z => by rw [decide_eq_true z.symm] at c_14; exact absurd c_14 (by decide)
      refine g_aload_n dX9_isCommand_17 rfl (by rfl) ?_
      refine g_kstr (i := 6) (text := "remove") (show ("BackupPlannerModel", 247, "remove", 6) ∈ s_str by decide) dX9_isCommand_18 ?_
      refine g_callV_e (c_X9_isWord hw hK hn (i := 6) (by decide)) dX9_isCommand_20 (mX9_isWord) rfl lX9_222 iX9_isWord vX9_isWord (by decide) (by omega) (by exact hm) rfl rfl rfl rfl (Nat.le_of_ble_eq_true rfl) ?_
      rw [hW 6 (by decide)]
      refine g_if_ne (tgt := 35) dX9_isCommand_23 (by decide) (fun c_23 => ?_) (fun c_23 => ?_)
      · have yW : W = 6 := Classical.byContradiction fun z => c_23 (by rw [decide_eq_false (fun y => z y.symm)]; rfl)
        refine g_iconst 1 dX9_isCommand_35 (by rfl) ?_
        refine g_goto (tgt := 40) dX9_isCommand_36 (by decide) ?_
        first
        | (refine g_istore_n dX9_isCommand_40 rfl (by decide) ?_; exact g_lv (tail true ⟨fun _ => by omega, fun _ => rfl⟩) ⟨rfl, rfl, trivial⟩)
        | (refine g_istore_n dX9_isCommand_40 rfl (by decide) ?_; exact g_lv (tail false ⟨fun z => absurd z (by decide), fun z => absurd z (by omega)⟩) ⟨rfl, rfl, trivial⟩)
      · have n6 : ¬ W = 6 := fun z => by rw [decide_eq_true z.symm] at c_23; exact absurd c_23 (by decide)
        refine g_aload_n dX9_isCommand_26 rfl (by rfl) ?_
        refine g_kstr (i := 7) (text := "capacity") (show ("BackupPlannerModel", 248, "capacity", 7) ∈ s_str by decide) dX9_isCommand_27 ?_
        refine g_callV_e (c_X9_isWord hw hK hn (i := 7) (by decide)) dX9_isCommand_29 (mX9_isWord) rfl lX9_222 iX9_isWord vX9_isWord (by decide) (by omega) (by exact hm) rfl rfl rfl rfl (Nat.le_of_ble_eq_true rfl) ?_
        rw [hW 7 (by decide)]
        refine g_if_eq (tgt := 39) dX9_isCommand_32 (by decide) (fun c_32 => ?_) (fun c_32 => ?_)
        · have n7 : ¬ W = 7 := fun z => by rw [decide_eq_true z.symm] at c_32; exact absurd c_32 (by decide)
          refine g_iconst 0 dX9_isCommand_39 (by rfl) ?_
          first
          | (refine g_istore_n dX9_isCommand_40 rfl (by decide) ?_; exact g_lv (tail true ⟨fun _ => by omega, fun _ => rfl⟩) ⟨rfl, rfl, trivial⟩)
          | (refine g_istore_n dX9_isCommand_40 rfl (by decide) ?_; exact g_lv (tail false ⟨fun z => absurd z (by decide), fun z => absurd z (by omega)⟩) ⟨rfl, rfl, trivial⟩)
        · have yW : W = 7 := Classical.byContradiction fun z => c_32 (by rw [decide_eq_false (fun y => z y.symm)]; rfl)
          refine g_iconst 1 dX9_isCommand_35 (by rfl) ?_
          refine g_goto (tgt := 40) dX9_isCommand_36 (by decide) ?_
          first
          | (refine g_istore_n dX9_isCommand_40 rfl (by decide) ?_; exact g_lv (tail true ⟨fun _ => by omega, fun _ => rfl⟩) ⟨rfl, rfl, trivial⟩)
          | (refine g_istore_n dX9_isCommand_40 rfl (by decide) ?_; exact g_lv (tail false ⟨fun z => absurd z (by decide), fun z => absurd z (by omega)⟩) ⟨rfl, rfl, trivial⟩)
