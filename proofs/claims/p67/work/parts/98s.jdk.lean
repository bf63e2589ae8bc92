/-! CONTRACTS OF THE JDK's METHODS: the text builder, as the law uses it (written by wip/p67/jdk.py) -/
/-- a text builder: the object, its bytes, how many of them count -/
def s_sb (h : s_H) (b v L : Nat) (f : Nat → Int32) (c : Nat) : Prop := h b = .inr (8, [.ref v, .int 0, .int 0, .int (nI c)]) ∧ h v = .inl (2, L, .inl f)
/-- a text that was made -/
def s_tx (h : s_H) (t v L : Nat) (f : Nat → Int32) : Prop := h t = .inr (7, [.ref v, .int 0, .int 0, .int 0]) ∧ h v = .inl (2, L, .inl f)
theorem nI_shr0 {L : Nat} (h : L < 2147483648) : nI L >>> ((0 : Int32) &&& 31) = nI L := by
  rw [show (0 : Int32) = nI 0 from rfl, b_shr h (by omega)]
  rfl
theorem nI_shl0 (x : Int32) : x <<< ((0 : Int32) &&& 31) = x := by
  apply Int32.toBitVec_inj.mp
  rw [Int32.toBitVec_shiftLeft]
  show x.toBitVec <<< (((0 : Int32) &&& 31).toBitVec.smod 32) = _
  rw [show ((0 : Int32) &&& 31).toBitVec.smod 32 = 0#32 by decide]
  simp

theorem c_b_latin {h : s_H} {n b v c : Nat} (ho : h b = .inr (8, [.ref v, .int 0, .int 0, .int (nI c)])) (hb : b < n) : s_Mt TJ5_isLatin1_aae02 0 0 [.ref b] h n (s_re (some (.int 1)) h n) := by
  refine s_Mt_of rfl (by decide) (by exact Nat.le_of_ble_eq_true rfl) ?_
  refine g_kcs5 rfl dJ5_isLatin1_aae02_0 ?_
  refine g_if_eq (tgt := 17) dJ5_isLatin1_aae02_3 (by decide) (fun c_3 => absurd c_3 (by decide)) (fun _ => ?_)
  refine g_aload_n dJ5_isLatin1_aae02_6 rfl (by rfl) ?_
  refine g_getf dJ5_isLatin1_aae02_7 fJ5_22 (by exact ho) (by omega) (by rfl) ?_
  refine g_if_ne (tgt := 17) dJ5_isLatin1_aae02_10 (by decide) (fun c_10 => absurd rfl c_10) (fun _ => ?_)
  refine g_iconst 1 dJ5_isLatin1_aae02_13 (by rfl) ?_
  refine g_goto (tgt := 18) dJ5_isLatin1_aae02_14 (by decide) ?_
  refine g_zreturn dJ5_isLatin1_aae02_18 rfl (by decide) ?_
  exact ⟨rfl, rfl, rfl⟩
theorem c_b_value {h : s_H} {n b v c : Nat} (ho : h b = .inr (8, [.ref v, .int 0, .int 0, .int (nI c)])) (hb : b < n) : s_Mt TJ5_getValue_6d5f1 0 0 [.ref b] h n (s_re (some (.ref v)) h n) := by
  refine s_Mt_of rfl (by decide) (by exact Nat.le_of_ble_eq_true rfl) ?_
  refine g_aload_n dJ5_getValue_6d5f1_0 rfl (by rfl) ?_
  refine g_getf dJ5_getValue_6d5f1_1 fJ5_15 (by exact ho) (by omega) (by rfl) ?_
  exact g_ret (some (.ref v)) ⟨dJ5_getValue_6d5f1_4, _, rfl, Or.inr ⟨_, rfl⟩⟩ ⟨rfl, rfl, rfl⟩
theorem c_b_len5 {h : s_H} {n b v c : Nat} (ho : h b = .inr (8, [.ref v, .int 0, .int 0, .int (nI c)])) (hb : b < n) : s_Mt TJ5_length_8abf5 0 0 [.ref b] h n (s_re (some (.int (nI c))) h n) := by
  refine s_Mt_of rfl (by decide) (by exact Nat.le_of_ble_eq_true rfl) ?_
  refine g_aload_n dJ5_length_8abf5_0 rfl (by rfl) ?_
  refine g_getf dJ5_length_8abf5_1 fJ5_79 (by exact ho) (by omega) (by rfl) ?_
  refine g_ireturn dJ5_length_8abf5_4 rfl ?_
  exact ⟨rfl, rfl, rfl⟩
theorem c_b_len4 {h : s_H} {n b v c : Nat} (ho : h b = .inr (8, [.ref v, .int 0, .int 0, .int (nI c)])) (hb : b < n) : s_Mt TJ4_length_8abf5 0 0 [.ref b] h n (s_re (some (.int (nI c))) h n) := by
  refine s_Mt_of rfl (by decide) (by exact Nat.le_of_ble_eq_true rfl) ?_
  refine g_aload_n dJ4_length_8abf5_0 rfl (by rfl) ?_
  refine g_callSUg (rest := []) (c_b_len5 ho hb) dJ4_length_8abf5_1 mJ5_length_8abf5 rfl lJ4_343 nJ5_length_8abf5 wsup4 iJ5_length_8abf5 (by decide) (by decide) (by omega) (by exact ho) rfl rfl (Nat.le_of_ble_eq_true rfl) (by omega) (by omega) (fun E h' n' z => by cases z.1) (s_lvs_vo (l := [(0, .ref b)]) (List.forall_mem_cons.mpr ⟨(by first | exact Or.inl (by omega) | exact Or.inr (by omega)), fun _ z => nomatch z⟩)) (fun _ z => nomatch z) (fun w9 h9 n9 z9 _ => ?_)
  obtain ⟨z1, rfl, rfl⟩ := z9
  cases z1
  refine g_ireturn dJ4_length_8abf5_4 rfl ?_
  exact ⟨rfl, rfl, rfl⟩
theorem c_b_init5 {h : s_H} {n b : Nat} (ho : h b = .inr (8, [.null, .int 0, .int 0, .int 0])) (hb : b < n) (hcl : s_cl h n) (hn : n + 1 ≤ s_big) : s_Mt TJ5_init_d00df 1 16 [.ref b, .int 16] h n (fun o h1 n1 => o = .inl none ∧ n1 = n + 1 ∧ s_sb h1 b n 16 (fun _ => 0) 0 ∧ s_cl h1 (n + 1) ∧ s_lo h h1 b) := by
  refine s_Mt_of rfl (by decide) (by exact Nat.le_of_ble_eq_true rfl) ?_
  refine g_aload_n dJ5_init_d00df_0 rfl (by rfl) ?_
  refine g_objInit dJ5_init_d00df_1 wl_J5 wi_obj wc_obj (Nat.le_of_ble_eq_true rfl) ?_
  refine g_kcs5 rfl dJ5_init_d00df_4 ?_
  refine g_if_eq (tgt := 25) dJ5_init_d00df_7 (by decide) (fun c_7 => absurd c_7 (by decide)) (fun _ => ?_)
  refine g_aload_n dJ5_init_d00df_10 rfl (by rfl) ?_
  refine g_iload_n dJ5_init_d00df_11 rfl (by rfl) ?_
  refine g_newaB (N' := 16) dJ5_init_d00df_12 wa_B rfl (by omega) (by omega) hcl (s_lvs_vo (l := [(0, .ref b), (1, .int 16)]) (List.forall_mem_cons.mpr ⟨(by first | exact Or.inl (by omega) | exact Or.inr (by omega)), List.forall_mem_cons.mpr ⟨trivial, fun _ z => nomatch z⟩⟩)) (List.forall_mem_cons.mpr ⟨(by first | exact Or.inl (by omega) | exact Or.inr (by omega)), (fun _ z => nomatch z)⟩) (by omega) (by omega) (fun h1 e1 hcl => ?_)
  have ho := s_up_off e1 (by omega) ho
  have hw := s_up_at e1
  have hlo : s_lo h h1 b := s_lo.rf.up e1 (by omega)
  refine g_putf' dJ5_init_d00df_14 pJ5_15 (by exact ho) (by omega) (by exact Nat.le_of_ble_eq_true rfl) (by rfl) (by rfl) (fun h21 e21 => ?_)
  first | have ho_21 := s_up_off e21 (by omega) ho | have ho_21 := s_up_at e21
  first | have hw_21 := s_up_off e21 (by omega) hw | have hw_21 := s_up_at e21
  have hcl := hcl.up e21 (Nat.le_refl _) (List.forall_mem_cons.mpr ⟨(by first | exact Or.inl (by omega) | exact Or.inr (by omega)), (List.forall_mem_cons.mpr ⟨trivial, (List.forall_mem_cons.mpr ⟨trivial, (List.forall_mem_cons.mpr ⟨trivial, (fun _ z => nomatch z)⟩)⟩)⟩)⟩) (fun j a c => by omega)
  have hlo := hlo.up e21 (by omega)
  refine g_aload_n dJ5_init_d00df_17 rfl (by rfl) ?_
  refine g_iconst 0 dJ5_init_d00df_18 (by rfl) ?_
  refine g_putf' dJ5_init_d00df_19 pJ5_22 (by exact ho_21) (by omega) (by exact Nat.le_of_ble_eq_true rfl) (by rfl) (by rfl) (fun h22 e22 => ?_)
  first | have ho_22 := s_up_off e22 (by omega) ho_21 | have ho_22 := s_up_at e22
  first | have hw_22 := s_up_off e22 (by omega) hw_21 | have hw_22 := s_up_at e22
  have hcl := hcl.up e22 (Nat.le_refl _) (List.forall_mem_cons.mpr ⟨(by first | exact Or.inl (by omega) | exact Or.inr (by omega)), (List.forall_mem_cons.mpr ⟨trivial, (List.forall_mem_cons.mpr ⟨trivial, (List.forall_mem_cons.mpr ⟨trivial, (fun _ z => nomatch z)⟩)⟩)⟩)⟩) (fun j a c => by omega)
  have hlo := hlo.up e22 (by omega)
  refine g_goto (tgt := 38) dJ5_init_d00df_22 (by decide) ?_
  refine g_vreturn dJ5_init_d00df_38 rfl ?_
  exact ⟨rfl, rfl, ⟨ho_22, hw_22⟩, hcl, hlo⟩
theorem c_b_init4 {h : s_H} {n b : Nat} (ho : h b = .inr (8, [.null, .int 0, .int 0, .int 0])) (hb : b < n) (hcl : s_cl h n) (hn : n + 1 ≤ s_big) : s_Mt TJ4_init_da8c8 1 16 [.ref b] h n (fun o h1 n1 => o = .inl none ∧ n1 = n + 1 ∧ s_sb h1 b n 16 (fun _ => 0) 0 ∧ s_cl h1 (n + 1) ∧ s_lo h h1 b) := by
  refine s_Mt_of rfl (by decide) (by exact Nat.le_of_ble_eq_true rfl) ?_
  refine g_aload_n dJ4_init_da8c8_0 rfl (by rfl) ?_
  refine g_bipush 16 dJ4_init_da8c8_1 (by rfl) ?_
  refine g_callIg (rest := []) (c_b_init5 ho hb hcl hn) dJ4_init_da8c8_3 mJ5_init_d00df rfl lJ4_1 iJ5_init_d00df rfl rfl (by decide) rfl rfl (Nat.le_of_ble_eq_true rfl) (by omega) (by omega) (fun E h' n' z => by cases z.1) (s_lvs_vo (l := [(0, .ref b)]) (List.forall_mem_cons.mpr ⟨(by first | exact Or.inl (by omega) | exact Or.inr (by omega)), fun _ z => nomatch z⟩)) (fun _ z => nomatch z) (fun w9 h9 n9 z9 _ => ?_)
  obtain ⟨z1, rfl, z2⟩ := z9
  cases z1
  refine g_vreturn dJ4_init_da8c8_6 rfl ?_
  exact ⟨rfl, rfl, z2⟩
theorem c_b_ens0 {h : s_H} {n b v L c k : Nat} {f : Nat → Int32} (hsb : s_sb h b v L f c) (hb : b < n) (hv : v < n) (hk : k ≤ L) (hL : L < 1000) : s_Mt TJ5_ensureCapacityInternal_d00df 0 0 [.ref b, .int (nI k)] h n (s_re none h n) := by
  refine s_Mt_of rfl (by decide) (by exact Nat.le_of_ble_eq_true rfl) ?_
  obtain ⟨ho, hw⟩ := hsb
  refine g_aload_n dJ5_ensureCapacityInternal_d00df_0 rfl (by rfl) ?_
  refine g_getf dJ5_ensureCapacityInternal_d00df_1 fJ5_15 (by exact ho) (by omega) (by rfl) ?_
  refine g_balen dJ5_ensureCapacityInternal_d00df_4 (by exact hw) (by omega) ?_
  refine g_aload_n dJ5_ensureCapacityInternal_d00df_5 rfl (by rfl) ?_
  refine g_getf dJ5_ensureCapacityInternal_d00df_6 fJ5_22 (by exact ho) (by omega) (by rfl) ?_
  refine g_ishr dJ5_ensureCapacityInternal_d00df_9 ?_
  rw [nI_shr0 (by omega)]
  refine g_istore_n dJ5_ensureCapacityInternal_d00df_10 rfl (by decide) ?_
  refine g_iload_n dJ5_ensureCapacityInternal_d00df_11 rfl (by rfl) ?_
  refine g_iload_n dJ5_ensureCapacityInternal_d00df_12 rfl (by rfl) ?_
  refine g_isub dJ5_ensureCapacityInternal_d00df_13 ?_
  refine g_if_le (tgt := 38) dJ5_ensureCapacityInternal_d00df_14 (by decide) (fun _ => ?_) (fun c_14 => absurd (by
      rw [Int32.le_iff_toInt_le]
      rcases Nat.lt_or_ge k L with z | z
      · exact Int32.le_iff_toInt_le.mp (Int32.le_of_lt (nI_sblt z (by omega)))
      · rw [nI_sble z, show k - L = 0 by omega]
        exact Int.le_refl _) c_14)
  refine g_vreturn dJ5_ensureCapacityInternal_d00df_38 rfl ?_
  exact ⟨rfl, rfl, rfl⟩
theorem c_max {h : s_H} {n : Nat} (x y : Int32) : s_Mt TJ9_max_7cf53 0 0 [.int x, .int y] h n (s_re (some (.int (if x < y then y else x))) h n) := by
  refine s_Mt_of rfl (by decide) (by exact Nat.le_of_ble_eq_true rfl) ?_
  refine g_iload_n dJ9_max_7cf53_0 rfl (by rfl) ?_
  refine g_iload_n dJ9_max_7cf53_1 rfl (by rfl) ?_
  refine g_icmp_lt (tgt := 9) dJ9_max_7cf53_2 (by decide) (fun c_2 => ?_) (fun c_2 => ?_)
  · refine g_iload_n dJ9_max_7cf53_9 rfl (by rfl) ?_
    refine g_ireturn dJ9_max_7cf53_10 rfl ?_
    exact ⟨by first | rw [if_pos c_2] | rw [if_neg c_2], rfl, rfl⟩
  · refine g_iload_n dJ9_max_7cf53_5 rfl (by rfl) ?_
    refine g_goto (tgt := 10) dJ9_max_7cf53_6 (by decide) ?_
    refine g_ireturn dJ9_max_7cf53_10 rfl ?_
    exact ⟨by first | rw [if_pos c_2] | rw [if_neg c_2], rfl, rfl⟩
theorem c_min {h : s_H} {n : Nat} (x y : Int32) : s_Mt TJ9_min_7cf53 0 0 [.int x, .int y] h n (s_re (some (.int (if y < x then y else x))) h n) := by
  refine s_Mt_of rfl (by decide) (by exact Nat.le_of_ble_eq_true rfl) ?_
  refine g_iload_n dJ9_min_7cf53_0 rfl (by rfl) ?_
  refine g_iload_n dJ9_min_7cf53_1 rfl (by rfl) ?_
  refine g_icmp_gt (tgt := 9) dJ9_min_7cf53_2 (by decide) (fun c_2 => ?_) (fun c_2 => ?_)
  · refine g_iload_n dJ9_min_7cf53_9 rfl (by rfl) ?_
    refine g_ireturn dJ9_min_7cf53_10 rfl ?_
    exact ⟨by first | rw [if_pos c_2] | rw [if_neg c_2], rfl, rfl⟩
  · refine g_iload_n dJ9_min_7cf53_5 rfl (by rfl) ?_
    refine g_goto (tgt := 10) dJ9_min_7cf53_6 (by decide) ?_
    refine g_ireturn dJ9_min_7cf53_10 rfl ?_
    exact ⟨by first | rw [if_pos c_2] | rw [if_neg c_2], rfl, rfl⟩
theorem c_b_newLen {h : s_H} {n : Nat} {x : Int32} (hx : x = 2 ∨ x = 3) : s_Mt TJ8_newLength_cabcc 0 0 [.int 16, .int x, .int 18] h n (s_re (some (.int 34)) h n) := by
  refine s_Mt_of rfl (by decide) (by exact Nat.le_of_ble_eq_true rfl) ?_
  have hm : (16 : Int32) + (if x < 18 then 18 else x) = 34 := by rcases hx with rfl | rfl <;> decide
  refine g_iload_n dJ8_newLength_cabcc_0 rfl (by rfl) ?_
  refine g_iload_n dJ8_newLength_cabcc_1 rfl (by rfl) ?_
  refine g_iload_n dJ8_newLength_cabcc_2 rfl (by rfl) ?_
  refine g_callSg (rest := [.int 16]) (c_max _ _) dJ8_newLength_cabcc_3 mJ9_max_7cf53 rfl lJ8_194 sJ9_max_7cf53 (by decide) rfl rfl (Nat.le_of_ble_eq_true rfl) (by omega) (by omega) (fun E h' n' z => by cases z.1) (s_lvs_vo (l := [(0, .int 16), (1, .int x), (2, .int 18)]) (List.forall_mem_cons.mpr ⟨trivial, List.forall_mem_cons.mpr ⟨trivial, List.forall_mem_cons.mpr ⟨trivial, fun _ z => nomatch z⟩⟩⟩)) (List.forall_mem_cons.mpr ⟨trivial, (fun _ z => nomatch z)⟩) (fun w9 h9 n9 z9 _ => ?_)
  obtain ⟨z1, rfl, rfl⟩ := z9
  cases z1
  refine g_iadd dJ8_newLength_cabcc_6 ?_
  rw [hm]
  refine g_istore_n dJ8_newLength_cabcc_7 rfl (by decide) ?_
  refine g_iconst 0 dJ8_newLength_cabcc_8 (by rfl) ?_
  refine g_iload_n dJ8_newLength_cabcc_9 rfl (by rfl) ?_
  refine g_icmp_ge (tgt := 21) dJ8_newLength_cabcc_10 (by decide) (fun c_10 => absurd c_10 (by decide)) (fun _ => ?_)
  refine g_iload_n dJ8_newLength_cabcc_13 rfl (by rfl) ?_
  refine g_ldc dJ8_newLength_cabcc_14 kJ8_200 ?_
  refine g_icmp_gt (tgt := 21) dJ8_newLength_cabcc_16 (by decide) (fun c_16 => absurd c_16 (by decide)) (fun _ => ?_)
  refine g_iload_n dJ8_newLength_cabcc_19 rfl (by rfl) ?_
  refine g_ireturn dJ8_newLength_cabcc_20 rfl ?_
  exact ⟨rfl, rfl, rfl⟩
theorem c_b_newCap {h : s_H} {n b v c : Nat} {f : Nat → Int32} {x : Int32} (hsb : s_sb h b v 16 f c) (hb : b < n) (hv : v < n) (hx : x = 18 ∨ x = 19) : s_Mt TJ5_newCapacity_0f7a4 0 0 [.ref b, .int x] h n (s_re (some (.int 34)) h n) := by
  refine s_Mt_of rfl (by decide) (by exact Nat.le_of_ble_eq_true rfl) ?_
  obtain ⟨ho, hw⟩ := hsb
  have hx2 : x - 16 = 2 ∨ x - 16 = 3 := by rcases hx with rfl | rfl <;> decide
  refine g_aload_n dJ5_newCapacity_0f7a4_0 rfl (by rfl) ?_
  refine g_getf dJ5_newCapacity_0f7a4_1 fJ5_15 (by exact ho) (by omega) (by rfl) ?_
  refine g_balen dJ5_newCapacity_0f7a4_4 (by exact hw) (by omega) ?_
  refine g_istore_n dJ5_newCapacity_0f7a4_5 rfl (by decide) ?_
  refine g_iload_n dJ5_newCapacity_0f7a4_6 rfl (by rfl) ?_
  refine g_aload_n dJ5_newCapacity_0f7a4_7 rfl (by rfl) ?_
  refine g_getf dJ5_newCapacity_0f7a4_8 fJ5_22 (by exact ho) (by omega) (by rfl) ?_
  refine g_ishl dJ5_newCapacity_0f7a4_11 ?_
  rw [nI_shl0]
  refine g_istore_n dJ5_newCapacity_0f7a4_12 rfl (by decide) ?_
  refine g_iload_n dJ5_newCapacity_0f7a4_13 rfl (by rfl) ?_
  refine g_iload_n dJ5_newCapacity_0f7a4_14 rfl (by rfl) ?_
  refine g_isub dJ5_newCapacity_0f7a4_15 ?_
  refine g_istore dJ5_newCapacity_0f7a4_16 (by decide) ?_
  refine g_iload_n dJ5_newCapacity_0f7a4_18 rfl (by rfl) ?_
  refine g_iload dJ5_newCapacity_0f7a4_19 (by rfl) ?_
  refine g_iload_n dJ5_newCapacity_0f7a4_21 rfl (by rfl) ?_
  refine g_iconst 2 dJ5_newCapacity_0f7a4_22 (by rfl) ?_
  refine g_aload_n dJ5_newCapacity_0f7a4_23 rfl (by rfl) ?_
  refine g_getf dJ5_newCapacity_0f7a4_24 fJ5_22 (by exact ho) (by omega) (by rfl) ?_
  refine g_ishl dJ5_newCapacity_0f7a4_27 ?_
  refine g_iadd dJ5_newCapacity_0f7a4_28 ?_
  rw [nI_shl0]
  refine g_lv (l := [(0, .ref b), (1, .int x), (2, .int 16), (3, .int x), (4, .int (x - 16))]) ?_ ⟨by rfl, by rfl, by rfl, by rfl, by rfl, trivial⟩
  refine g_callSg (rest := []) (c_b_newLen hx2) dJ5_newCapacity_0f7a4_29 mJ8_newLength_cabcc rfl lJ5_114 sJ8_newLength_cabcc (by decide) rfl rfl (Nat.le_of_ble_eq_true rfl) (by omega) (by omega) (fun E h' n' z => by cases z.1) (s_lvs_vo (l := [(0, .ref b), (1, .int x), (2, .int 16), (3, .int x), (4, .int (x - 16))]) (List.forall_mem_cons.mpr ⟨(by first | exact Or.inl (by omega) | exact Or.inr (by omega)), List.forall_mem_cons.mpr ⟨trivial, List.forall_mem_cons.mpr ⟨trivial, List.forall_mem_cons.mpr ⟨trivial, List.forall_mem_cons.mpr ⟨trivial, fun _ z => nomatch z⟩⟩⟩⟩⟩)) (fun _ z => nomatch z) (fun w9 h9 n9 z9 _ => ?_)
  obtain ⟨z1, rfl, rfl⟩ := z9
  cases z1
  refine g_istore dJ5_newCapacity_0f7a4_32 (by decide) ?_
  refine g_iload dJ5_newCapacity_0f7a4_34 (by rfl) ?_
  refine g_ldc dJ5_newCapacity_0f7a4_36 kJ5_39 ?_
  refine g_icmp_ne (tgt := 51) dJ5_newCapacity_0f7a4_38 (by decide) (fun _ => ?_) (fun c_38 => absurd c_38 (by decide))
  refine g_iload dJ5_newCapacity_0f7a4_51 (by rfl) ?_
  refine g_aload_n dJ5_newCapacity_0f7a4_53 rfl (by rfl) ?_
  refine g_getf dJ5_newCapacity_0f7a4_54 fJ5_22 (by exact ho) (by omega) (by rfl) ?_
  refine g_ishr dJ5_newCapacity_0f7a4_57 ?_
  refine g_ireturn dJ5_newCapacity_0f7a4_58 rfl ?_
  exact ⟨rfl, rfl, rfl⟩
