/-! TEXTS: length and charAt -/
def k_b (i j : Nat) : Int32 := (s_byt.getD i []).getD j 0
theorem k_char : ∀ i, i < 14 → ∀ j, j < s_len.getD i 0 → ((k_b i j &&& 255).toUInt32 % 65536).toInt32 = k_b i j ∧ narrow .char (.int (k_b i j)) = .int (k_b i j) := by decide +kernel
theorem k_len : ∀ i, i < 14 → s_len.getD i 0 ≤ 12 := by decide +kernel
theorem c_coder {h : s_H} {n i : Nat} (hi : i < 14) : s_Mt TJ0_coder_7d493 0 0 [.ref (s_big + i)] h n (s_re (some (.int 0)) h n) := by
  refine s_Mt_of rfl (by decide) (by exact Nat.le_of_ble_eq_true rfl) ?_
  refine g_kcs rfl dJ0_coder_7d493_0 ?_
  refine g_if_eq (tgt := 13) dJ0_coder_7d493_3 (by decide) (fun z => absurd z (by decide)) (fun _ => ?_)
  refine g_aload_n dJ0_coder_7d493_6 rfl (by rfl) ?_
  refine g_kcod hi rfl dJ0_coder_7d493_7 ?_
  refine g_goto (tgt := 14) dJ0_coder_7d493_10 (by decide) ?_
  exact g_ret (some (.int 0)) ⟨dJ0_coder_7d493_14, .byte, rfl, rfl⟩ ⟨rfl, rfl, rfl⟩
theorem c_latin {h : s_H} {n i : Nat} (hi : i < 14) : s_Mt TJ0_isLatin1_aae02 0 0 [.ref (s_big + i)] h n (s_re (some (.int 1)) h n) := by
  refine s_Mt_of rfl (by decide) (by exact Nat.le_of_ble_eq_true rfl) ?_
  refine g_kcs rfl dJ0_isLatin1_aae02_0 ?_
  refine g_if_eq (tgt := 17) dJ0_isLatin1_aae02_3 (by decide) (fun z => absurd z (by decide)) (fun _ => ?_)
  refine g_aload_n dJ0_isLatin1_aae02_6 rfl (by rfl) ?_
  refine g_kcod hi rfl dJ0_isLatin1_aae02_7 ?_
  refine g_if_ne (tgt := 17) dJ0_isLatin1_aae02_10 (by decide) (fun z => absurd rfl z) (fun _ => ?_)
  refine g_iconst 1 dJ0_isLatin1_aae02_13 (by rfl) ?_
  refine g_goto (tgt := 18) dJ0_isLatin1_aae02_14 (by decide) ?_
  exact g_ret (some (.int 1)) ⟨dJ0_isLatin1_aae02_18, .boolean, rfl, rfl⟩ ⟨rfl, rfl, rfl⟩
theorem c_length {h : s_H} {n i : Nat} (hi : i < 14) : s_Mt TJ0_length_8abf5 0 0 [.ref (s_big + i)] h n (s_re (some (.int (nI (s_len.getD i 0)))) h n) := by
  refine s_Mt_of rfl (by decide) (by exact Nat.le_of_ble_eq_true rfl) ?_
  have hl := k_len i hi
  refine g_aload_n dJ0_length_8abf5_0 rfl (by rfl) ?_
  refine g_kval hi rfl dJ0_length_8abf5_1 ?_
  refine g_klen hi dJ0_length_8abf5_4 ?_
  refine g_aload_n dJ0_length_8abf5_5 rfl (by rfl) ?_
  refine g_callT (c_coder hi) hi dJ0_length_8abf5_6 mJ0_coder_7d493 rfl rfl lJ0_335 iJ0_coder_7d493 vJ0_coder_7d493 (by decide) rfl rfl (Nat.le_of_ble_eq_true rfl) ?_
  refine g_ishr dJ0_length_8abf5_9 ?_
  refine g_ireturn dJ0_length_8abf5_10 rfl ⟨?_, rfl, rfl⟩
  rw [show (0 : Int32) = nI 0 from rfl, b_shr (by omega) (by omega)]
  rfl
theorem c_chk3 {h : s_H} {n : Nat} {x y : Int32} {v : Value} (h0 : ¬ x < 0) (h1 : x < y) (hv : v = .null ∨ v = .ref (s_big + 400)) : s_Mt TJ3_checkIndex_8e157 0 0 [.int x, .int y, v] h n (s_re (some (.int x)) h n) := by
  refine s_Mt_of rfl (by decide) (by rcases hv with rfl | rfl <;> exact Nat.le_of_ble_eq_true rfl) ?_
  refine g_lv (l := [(0, .int x), (1, .int y)]) ?_ ⟨rfl, rfl, trivial⟩
  refine g_iload_n dJ3_checkIndex_8e157_0 rfl (by rfl) ?_
  refine g_if_lt (tgt := 9) dJ3_checkIndex_8e157_1 (by decide) (fun z => absurd z h0) (fun _ => ?_)
  refine g_iload_n dJ3_checkIndex_8e157_4 rfl (by rfl) ?_
  refine g_iload_n dJ3_checkIndex_8e157_5 rfl (by rfl) ?_
  refine g_icmp_lt (tgt := 16) dJ3_checkIndex_8e157_6 (by decide) (fun _ => ?_) (fun z => absurd h1 z)
  refine g_iload_n dJ3_checkIndex_8e157_16 rfl (by rfl) ?_
  exact g_ireturn dJ3_checkIndex_8e157_17 rfl ⟨rfl, rfl, rfl⟩
theorem c_chk0 {h : s_H} {n : Nat} {x y : Int32} (h0 : ¬ x < 0) (h1 : x < y) : s_Mt TJ0_checkIndex_df160 0 0 [.int x, .int y] h n (s_re none h n) := by
  refine s_Mt_of rfl (by decide) (by exact Nat.le_of_ble_eq_true rfl) ?_
  refine g_iload_n dJ0_checkIndex_df160_0 rfl (by rfl) ?_
  refine g_iload_n dJ0_checkIndex_df160_1 rfl (by rfl) ?_
  refine g_ksio rfl dJ0_checkIndex_df160_2 (fun v hv => ?_)
  refine g_callS_e (c_chk3 h0 h1 hv) dJ0_checkIndex_df160_5 mJ3_checkIndex_8e157 rfl lJ0_1059 sJ3_checkIndex_8e157 (by decide) rfl rfl (Nat.le_of_ble_eq_true rfl) ?_
  refine g_pop dJ0_checkIndex_df160_8 (by rfl) ?_
  exact g_vreturn dJ0_checkIndex_df160_9 rfl ⟨rfl, rfl, rfl⟩
theorem c_lchar {h : s_H} {n i j : Nat} (hi : i < 14) (hj : j < s_len.getD i 0) : s_Mt TJ1_charAt_3b067 0 0 [.ref (s_big + 300 + i), .int (nI j)] h n (s_re (some (.int (k_b i j))) h n) := by
  refine s_Mt_of rfl (by decide) (by exact Nat.le_of_ble_eq_true rfl) ?_
  have hl := k_len i hi
  obtain ⟨e1, e2⟩ := k_char i hi j hj
  refine g_iload_n dJ1_charAt_3b067_0 rfl (by rfl) ?_
  refine g_aload_n dJ1_charAt_3b067_1 rfl (by rfl) ?_
  refine g_klen hi dJ1_charAt_3b067_2 ?_
  refine g_callS_e (c_chk0 (nI_pos (by omega)) (nI_lt hj (by omega))) dJ1_charAt_3b067_3 mJ0_checkIndex_df160 rfl lJ1_9 sJ0_checkIndex_df160 (by decide) rfl rfl (Nat.le_of_ble_eq_true rfl) ?_
  refine g_aload_n dJ1_charAt_3b067_6 rfl (by rfl) ?_
  refine g_iload_n dJ1_charAt_3b067_7 rfl (by rfl) ?_
  refine g_kbyt hi hj (by omega) rfl dJ1_charAt_3b067_8 ?_
  refine g_sipush 255 dJ1_charAt_3b067_9 (by rfl) ?_
  refine g_iand dJ1_charAt_3b067_12 ?_
  refine g_i2c dJ1_charAt_3b067_13 ?_
  rw [show (s_byt.getD i []).getD j 0 = k_b i j from rfl, e1]
  exact g_ret (some (.int (k_b i j))) ⟨dJ1_charAt_3b067_14, .char, rfl, e2⟩ ⟨rfl, rfl, rfl⟩
theorem c_charAt {h : s_H} {n i j : Nat} (hi : i < 14) (hj : j < s_len.getD i 0) : s_Mt TJ0_charAt_5068e 0 0 [.ref (s_big + i), .int (nI j)] h n (s_re (some (.int (k_b i j))) h n) := by
  refine s_Mt_of rfl (by decide) (by exact Nat.le_of_ble_eq_true rfl) ?_
  refine g_aload_n dJ0_charAt_5068e_0 rfl (by rfl) ?_
  refine g_callT (c_latin hi) hi dJ0_charAt_5068e_1 mJ0_isLatin1_aae02 rfl rfl lJ0_492 iJ0_isLatin1_aae02 vJ0_isLatin1_aae02 (by decide) rfl rfl (Nat.le_of_ble_eq_true rfl) ?_
  refine g_if_eq (tgt := 16) dJ0_charAt_5068e_4 (by decide) (fun z => absurd z (by decide)) (fun _ => ?_)
  refine g_aload_n dJ0_charAt_5068e_7 rfl (by rfl) ?_
  refine g_kval hi rfl dJ0_charAt_5068e_8 ?_
  refine g_iload_n dJ0_charAt_5068e_11 rfl (by rfl) ?_
  refine g_callS_e (c_lchar hi hj) dJ0_charAt_5068e_12 mJ1_charAt_3b067 rfl lJ0_495 sJ1_charAt_3b067 (by decide) rfl rfl (Nat.le_of_ble_eq_true rfl) ?_
  exact g_ret (some (.int (k_b i j))) ⟨dJ0_charAt_5068e_15, .char, rfl, (k_char i hi j hj).2⟩ ⟨rfl, rfl, rfl⟩
