/-! RANKS, as the class computes them -/
def r_NP : Int64 := -4611686018427387904
def r_rank (w s b : Int32) : Int64 := ((w.toInt64 <<< ((28 : Int32).toInt64 &&& 63)) - (s.toInt64 <<< ((14 : Int32).toInt64 &&& 63))) - b.toInt64
def r_wt (r : Int64) : Int32 := if r = r_NP then -1 else ((r + 268435456 - 1) >>> ((28 : Int32).toInt64 &&& 63)).toInt32
def r_sz (r : Int64) : Int32 := if r = r_NP then -1 else (((-r) >>> ((14 : Int32).toInt64 &&& 63)) &&& 16383).toInt32
def r_st (r : Int64) : Int32 := if r = r_NP then -1 else ((-r) &&& 16383).toInt32
def r_se (r : Int64) : Int32 := if r = r_NP then 0 else ((-r) &&& 16383).toInt32

theorem kX7_61 : Cond.constantLong RX7 61 (-4611686018427387904) ∈ s_WL := s_WL_of 709 (by decide +kernel) rfl
theorem kX8_125 : Cond.constantLong RX8 125 (-4611686018427387904) ∈ s_WL := s_WL_of 713 (by decide +kernel) rfl
theorem kX8_289 : Cond.constantLong RX8 289 (16383) ∈ s_WL := s_WL_of 714 (by decide +kernel) rfl
theorem kX8_287 : Cond.constantLong RX8 287 (268435456) ∈ s_WL := s_WL_of 929 (by decide +kernel) rfl
theorem kJ6_265 : Cond.constant RJ6 265 (1431655765) ∈ s_WL := s_WL_of 873 (by decide +kernel) rfl
theorem kJ6_266 : Cond.constant RJ6 266 (858993459) ∈ s_WL := s_WL_of 874 (by decide +kernel) rfl
theorem kJ6_267 : Cond.constant RJ6 267 (252645135) ∈ s_WL := s_WL_of 875 (by decide +kernel) rfl
theorem c_X8_rank {h : s_H} {n : Nat} (w s b : Int32) : s_Mt TX8_rank 0 0 [.int w, .int s, .int b] h n (s_re (some (.long (r_rank w s b))) h n) := by
  refine s_Mt_of rfl (by decide) (by exact Nat.le_of_ble_eq_true rfl) ?_
  refine g_iload_n dX8_rank_0 rfl (by rfl) ?_
  refine g_i2l dX8_rank_1 ?_
  refine g_bipush 28 dX8_rank_2 (by rfl) ?_
  refine g_lshl dX8_rank_4 ?_
  refine g_iload_n dX8_rank_5 rfl (by rfl) ?_
  refine g_i2l dX8_rank_6 ?_
  refine g_bipush 14 dX8_rank_7 (by rfl) ?_
  refine g_lshl dX8_rank_9 ?_
  refine g_lsub dX8_rank_10 ?_
  refine g_iload_n dX8_rank_11 rfl (by rfl) ?_
  refine g_i2l dX8_rank_12 ?_
  refine g_lsub dX8_rank_13 ?_
  refine g_lreturn dX8_rank_14 rfl ?_
  exact ⟨rfl, rfl, rfl⟩

theorem c_X8_rankWeight {h : s_H} {n : Nat} (r : Int64) : s_Mt TX8_rankWeight 0 0 [.long r] h n (s_re (some (.int (r_wt r))) h n) := by
  refine s_Mt_of rfl (by decide) (by exact Nat.le_of_ble_eq_true rfl) ?_
  refine g_lload_n dX8_rankWeight_0 rfl (by rfl) ?_
  refine g_ldc2 dX8_rankWeight_1 kX8_125 ?_
  refine g_lcmp dX8_rankWeight_4 ?_
  refine g_if_ne (tgt := 10) dX8_rankWeight_5 (by decide) (fun c_5 => ?_) (fun c_5 => ?_)
  · refine g_lload_n dX8_rankWeight_10 rfl (by rfl) ?_
    refine g_ldc2 dX8_rankWeight_11 kX8_287 ?_
    refine g_ladd dX8_rankWeight_14 ?_
    refine g_lconst 1 dX8_rankWeight_15 (by rfl) ?_
    refine g_lsub dX8_rankWeight_16 ?_
    refine g_bipush 28 dX8_rankWeight_17 (by rfl) ?_
    refine g_lshr dX8_rankWeight_19 ?_
    refine g_l2i dX8_rankWeight_20 ?_
    refine g_ireturn dX8_rankWeight_21 rfl ?_
    exact ⟨by first | rw [r_wt, if_pos (show r = r_NP from (lg_cmp_eq _ _).mp c_5)] | rw [r_wt, if_neg (show ¬ r = r_NP from fun z => c_5 ((lg_cmp_eq _ _).mpr z))], rfl, rfl⟩
  · refine g_iconst (-1) dX8_rankWeight_8 (by rfl) ?_
    refine g_ireturn dX8_rankWeight_9 rfl ?_
    exact ⟨by first | rw [r_wt, if_pos (show r = r_NP from (lg_cmp_eq _ _).mp c_5)] | rw [r_wt, if_neg (show ¬ r = r_NP from fun z => c_5 ((lg_cmp_eq _ _).mpr z))], rfl, rfl⟩

theorem c_X8_rankSize {h : s_H} {n : Nat} (r : Int64) : s_Mt TX8_rankSize 0 0 [.long r] h n (s_re (some (.int (r_sz r))) h n) := by
  refine s_Mt_of rfl (by decide) (by exact Nat.le_of_ble_eq_true rfl) ?_
  refine g_lload_n dX8_rankSize_0 rfl (by rfl) ?_
  refine g_ldc2 dX8_rankSize_1 kX8_125 ?_
  refine g_lcmp dX8_rankSize_4 ?_
  refine g_if_ne (tgt := 12) dX8_rankSize_5 (by decide) (fun c_5 => ?_) (fun c_5 => ?_)
  · refine g_lload_n dX8_rankSize_12 rfl (by rfl) ?_
    refine g_lneg dX8_rankSize_13 ?_
    refine g_bipush 14 dX8_rankSize_14 (by rfl) ?_
    refine g_lshr dX8_rankSize_16 ?_
    refine g_ldc2 dX8_rankSize_17 kX8_289 ?_
    refine g_land dX8_rankSize_20 ?_
    refine g_l2i dX8_rankSize_21 ?_
    refine g_ireturn dX8_rankSize_22 rfl ?_
    exact ⟨by first | rw [r_sz, if_pos (show r = r_NP from (lg_cmp_eq _ _).mp c_5)] | rw [r_sz, if_neg (show ¬ r = r_NP from fun z => c_5 ((lg_cmp_eq _ _).mpr z))], rfl, rfl⟩
  · refine g_iconst (-1) dX8_rankSize_8 (by rfl) ?_
    refine g_goto (tgt := 22) dX8_rankSize_9 (by decide) ?_
    refine g_ireturn dX8_rankSize_22 rfl ?_
    exact ⟨by first | rw [r_sz, if_pos (show r = r_NP from (lg_cmp_eq _ _).mp c_5)] | rw [r_sz, if_neg (show ¬ r = r_NP from fun z => c_5 ((lg_cmp_eq _ _).mpr z))], rfl, rfl⟩

theorem c_X8_rankSet {h : s_H} {n : Nat} (r : Int64) : s_Mt TX8_rankSet 0 0 [.long r] h n (s_re (some (.int (r_st r))) h n) := by
  refine s_Mt_of rfl (by decide) (by exact Nat.le_of_ble_eq_true rfl) ?_
  refine g_lload_n dX8_rankSet_0 rfl (by rfl) ?_
  refine g_ldc2 dX8_rankSet_1 kX8_125 ?_
  refine g_lcmp dX8_rankSet_4 ?_
  refine g_if_ne (tgt := 12) dX8_rankSet_5 (by decide) (fun c_5 => ?_) (fun c_5 => ?_)
  · refine g_lload_n dX8_rankSet_12 rfl (by rfl) ?_
    refine g_lneg dX8_rankSet_13 ?_
    refine g_ldc2 dX8_rankSet_14 kX8_289 ?_
    refine g_land dX8_rankSet_17 ?_
    refine g_l2i dX8_rankSet_18 ?_
    refine g_ireturn dX8_rankSet_19 rfl ?_
    exact ⟨by first | rw [r_st, if_pos (show r = r_NP from (lg_cmp_eq _ _).mp c_5)] | rw [r_st, if_neg (show ¬ r = r_NP from fun z => c_5 ((lg_cmp_eq _ _).mpr z))], rfl, rfl⟩
  · refine g_iconst (-1) dX8_rankSet_8 (by rfl) ?_
    refine g_goto (tgt := 19) dX8_rankSet_9 (by decide) ?_
    refine g_ireturn dX8_rankSet_19 rfl ?_
    exact ⟨by first | rw [r_st, if_pos (show r = r_NP from (lg_cmp_eq _ _).mp c_5)] | rw [r_st, if_neg (show ¬ r = r_NP from fun z => c_5 ((lg_cmp_eq _ _).mpr z))], rfl, rfl⟩

theorem c_X8_rankSetOrEmpty {h : s_H} {n : Nat} (r : Int64) : s_Mt TX8_rankSetOrEmpty 0 0 [.long r] h n (s_re (some (.int (r_se r))) h n) := by
  refine s_Mt_of rfl (by decide) (by exact Nat.le_of_ble_eq_true rfl) ?_
  refine g_lload_n dX8_rankSetOrEmpty_0 rfl (by rfl) ?_
  refine g_ldc2 dX8_rankSetOrEmpty_1 kX8_125 ?_
  refine g_lcmp dX8_rankSetOrEmpty_4 ?_
  refine g_if_ne (tgt := 12) dX8_rankSetOrEmpty_5 (by decide) (fun c_5 => ?_) (fun c_5 => ?_)
  · refine g_lload_n dX8_rankSetOrEmpty_12 rfl (by rfl) ?_
    refine g_lneg dX8_rankSetOrEmpty_13 ?_
    refine g_ldc2 dX8_rankSetOrEmpty_14 kX8_289 ?_
    refine g_land dX8_rankSetOrEmpty_17 ?_
    refine g_l2i dX8_rankSetOrEmpty_18 ?_
    refine g_ireturn dX8_rankSetOrEmpty_19 rfl ?_
    exact ⟨by first | rw [r_se, if_pos (show r = r_NP from (lg_cmp_eq _ _).mp c_5)] | rw [r_se, if_neg (show ¬ r = r_NP from fun z => c_5 ((lg_cmp_eq _ _).mpr z))], rfl, rfl⟩
  · refine g_iconst 0 dX8_rankSetOrEmpty_8 (by rfl) ?_
    refine g_goto (tgt := 19) dX8_rankSetOrEmpty_9 (by decide) ?_
    refine g_ireturn dX8_rankSetOrEmpty_19 rfl ?_
    exact ⟨by first | rw [r_se, if_pos (show r = r_NP from (lg_cmp_eq _ _).mp c_5)] | rw [r_se, if_neg (show ¬ r = r_NP from fun z => c_5 ((lg_cmp_eq _ _).mpr z))], rfl, rfl⟩
