/-! CONTRACTS OF THE JDK's METHODS: the text builder, as the law uses it (written by wip/p67/jdk.py) -/
/-- a text builder: the object, its bytes, how many of them count -/
def s_sb (h : s_H) (b v L : Nat) (f : Nat → Int32) (c : Nat) : Prop := h b = .inr (8, [.ref v, .int 0, .int 0, .int (nI c)]) ∧ h v = .inl (2, L, .inl f)
/-- a text that was made -/
def s_tx (h : s_H) (t v L : Nat) (f : Nat → Int32) : Prop := h t = .inr (7, [.ref v, .int 0, .int 0, .int 0]) ∧ h v = .inl (2, L, .inl f)
theorem nI_shr0 {L : Nat} (h : L < 2147483648) : nI L >>> ((0 : Int32) &&& 31) = nI L := by
  rw [show (0 : Int32) = nI 0 from rfl, b_shr h (by omega)]
  rfl
theorem nI_shl0 (x : Int32) : x <<< ((0 : Int32) &&& 31) = x := by
  apply Int32.toBitVec_inj.mp
  rw [Int32.toBitVec_shiftLeft]
  show x.toBitVec <<< (((0 : Int32) &&& 31).toBitVec.smod 32) = _
  rw [show ((0 : Int32) &&& 31).toBitVec.smod 32 = 0#32 by decide]
  simp

theorem c_b_latin {h : s_H} {n b v c : Nat} (ho : h b = .inr (8, [.ref v, .int 0, .int 0, .int (nI c)])) (hb : b < n) : s_Mt TJ5_isLatin1_aae02 0 0 [.ref b] h n (s_re (some (.int 1)) h n) := by
  refine s_Mt_of rfl (by decide) (by exact Nat.le_of_ble_eq_true rfl) ?_
  refine g_kcs5 rfl dJ5_isLatin1_aae02_0 ?_
  refine g_if_eq (tgt := 17) dJ5_isLatin1_aae02_3 (by decide) (fun c_3 => absurd c_3 (by decide)) (fun _ => ?_)
  refine g_aload_n dJ5_isLatin1_aae02_6 rfl (by rfl) ?_
  refine g_getf dJ5_isLatin1_aae02_7 fJ5_22 (by exact ho) (by omega) (by rfl) ?_
  refine g_if_ne (tgt := 17) dJ5_isLatin1_aae02_10 (by decide) (fun c_10 => absurd rfl c_10) (fun _ => ?_)
  refine g_iconst 1 dJ5_isLatin1_aae02_13 (by rfl) ?_
  refine g_goto (tgt := 18) dJ5_isLatin1_aae02_14 (by decide) ?_
  refine g_zreturn dJ5_isLatin1_aae02_18 rfl (by decide) ?_
  exact ⟨rfl, rfl, rfl⟩
theorem c_b_value {h : s_H} {n b v c : Nat} (ho : h b = .inr (8, [.ref v, .int 0, .int 0, .int (nI c)])) (hb : b < n) : s_Mt TJ5_getValue_6d5f1 0 0 [.ref b] h n (s_re (some (.ref v)) h n) := by
  refine s_Mt_of rfl (by decide) (by exact Nat.le_of_ble_eq_true rfl) ?_
  refine g_aload_n dJ5_getValue_6d5f1_0 rfl (by rfl) ?_
  refine g_getf dJ5_getValue_6d5f1_1 fJ5_15 (by exact ho) (by omega) (by rfl) ?_
  exact g_ret (some (.ref v)) ⟨dJ5_getValue_6d5f1_4, _, rfl, Or.inr ⟨_, rfl⟩⟩ ⟨rfl, rfl, rfl⟩
theorem c_b_len5 {h : s_H} {n b v c : Nat} (ho : h b = .inr (8, [.ref v, .int 0, .int 0, .int (nI c)])) (hb : b < n) : s_Mt TJ5_length_8abf5 0 0 [.ref b] h n (s_re (some (.int (nI c))) h n) := by
  refine s_Mt_of rfl (by decide) (by exact Nat.le_of_ble_eq_true rfl) ?_
  refine g_aload_n dJ5_length_8abf5_0 rfl (by rfl) ?_
  refine g_getf dJ5_length_8abf5_1 fJ5_79 (by exact ho) (by omega) (by rfl) ?_
  refine g_ireturn dJ5_length_8abf5_4 rfl ?_
  exact ⟨rfl, rfl, rfl⟩
theorem c_b_len4 {h : s_H} {n b v c : Nat} (ho : h b = .inr (8, [.ref v, .int 0, .int 0, .int (nI c)])) (hb : b < n) : s_Mt TJ4_length_8abf5 0 0 [.ref b] h n (s_re (some (.int (nI c))) h n) := by
  refine s_Mt_of rfl (by decide) (by exact Nat.le_of_ble_eq_true rfl) ?_
  refine g_aload_n dJ4_length_8abf5_0 rfl (by rfl) ?_
  refine g_callSUg (rest := []) (c_b_len5 ho hb) dJ4_length_8abf5_1 mJ5_length_8abf5 rfl lJ4_343 nJ5_length_8abf5 wsup4 iJ5_length_8abf5 (by decide) (by decide) (by omega) (by exact ho) rfl rfl (Nat.le_of_ble_eq_true rfl) (by omega) (by omega) (fun E h' n' z => by cases z.1) (s_lvs_vo (l := [(0, .ref b)]) (List.forall_mem_cons.mpr ⟨(by first | exact s_vo_r (by omega) | exact Or.inl (by omega) | exact Or.inr (by omega)), fun _ z => nomatch z⟩)) (fun _ z => nomatch z) (fun w9 h9 n9 z9 _ => ?_)
  obtain ⟨z1, z2, z3⟩ := z9
  obtain rfl := z2.symm
  obtain rfl := z3.symm
  cases z1
  refine g_ireturn dJ4_length_8abf5_4 rfl ?_
  exact ⟨rfl, rfl, rfl⟩
theorem c_b_init5 {h : s_H} {n b : Nat} (ho : h b = .inr (8, [.null, .int 0, .int 0, .int 0])) (hb : b < n) (hcl : s_cl h n) (hn : n + 1 ≤ s_big) : s_Mt TJ5_init_d00df 1 16 [.ref b, .int 16] h n (fun o h1 n1 => o = .inl none ∧ n1 = n + 1 ∧ s_sb h1 b n 16 (fun _ => 0) 0 ∧ s_cl h1 (n + 1) ∧ s_lo h h1 b) := by
  refine s_Mt_of rfl (by decide) (by exact Nat.le_of_ble_eq_true rfl) ?_
  refine g_aload_n dJ5_init_d00df_0 rfl (by rfl) ?_
  refine g_objInit dJ5_init_d00df_1 wl_J5 wi_obj wc_obj (Nat.le_of_ble_eq_true rfl) ?_
  refine g_kcs5 rfl dJ5_init_d00df_4 ?_
  refine g_if_eq (tgt := 25) dJ5_init_d00df_7 (by decide) (fun c_7 => absurd c_7 (by decide)) (fun _ => ?_)
  refine g_aload_n dJ5_init_d00df_10 rfl (by rfl) ?_
  refine g_iload_n dJ5_init_d00df_11 rfl (by rfl) ?_
  refine g_newaB (N' := 16) dJ5_init_d00df_12 wa_B rfl (by omega) (by omega) hcl (s_lvs_vo (l := [(0, .ref b), (1, .int 16)]) (List.forall_mem_cons.mpr ⟨(by first | exact s_vo_r (by omega) | exact Or.inl (by omega) | exact Or.inr (by omega)), List.forall_mem_cons.mpr ⟨trivial, fun _ z => nomatch z⟩⟩)) (List.forall_mem_cons.mpr ⟨(by first | exact s_vo_r (by omega) | exact Or.inl (by omega) | exact Or.inr (by omega)), (fun _ z => nomatch z)⟩) (by omega) (by omega) (fun h1 e1 hcl => ?_)
  have ho := s_up_off e1 (by omega) ho
  have hw := s_up_at e1
  have hlo := (s_lo.rf (d := b)).up e1 (by omega)
  refine g_putf' dJ5_init_d00df_14 pJ5_15 (by exact ho) (by omega) (by exact Nat.le_of_ble_eq_true rfl) (by rfl) (by rfl) (fun h21 e21 => ?_)
  first | have ho_21 := s_up_off e21 (by omega) ho | have ho_21 := s_up_at e21
  first | have hw_21 := s_up_off e21 (by omega) hw | have hw_21 := s_up_at e21
  have hcl := hcl.up e21 (Nat.le_refl _) (List.forall_mem_cons.mpr ⟨(by first | exact s_vo_r (by omega) | exact Or.inl (by omega) | exact Or.inr (by omega)), (List.forall_mem_cons.mpr ⟨trivial, (List.forall_mem_cons.mpr ⟨trivial, (List.forall_mem_cons.mpr ⟨trivial, (fun _ z => nomatch z)⟩)⟩)⟩)⟩) (fun j a c => by omega)
  have hlo := hlo.up e21 (by omega)
  refine g_aload_n dJ5_init_d00df_17 rfl (by rfl) ?_
  refine g_iconst 0 dJ5_init_d00df_18 (by rfl) ?_
  refine g_putf' dJ5_init_d00df_19 pJ5_22 (by exact ho_21) (by omega) (by exact Nat.le_of_ble_eq_true rfl) (by rfl) (by rfl) (fun h22 e22 => ?_)
  first | have ho_22 := s_up_off e22 (by omega) ho_21 | have ho_22 := s_up_at e22
  first | have hw_22 := s_up_off e22 (by omega) hw_21 | have hw_22 := s_up_at e22
  have hcl := hcl.up e22 (Nat.le_refl _) (List.forall_mem_cons.mpr ⟨(by first | exact s_vo_r (by omega) | exact Or.inl (by omega) | exact Or.inr (by omega)), (List.forall_mem_cons.mpr ⟨trivial, (List.forall_mem_cons.mpr ⟨trivial, (List.forall_mem_cons.mpr ⟨trivial, (fun _ z => nomatch z)⟩)⟩)⟩)⟩) (fun j a c => by omega)
  have hlo := hlo.up e22 (by omega)
  refine g_goto (tgt := 38) dJ5_init_d00df_22 (by decide) ?_
  refine g_vreturn dJ5_init_d00df_38 rfl ?_
  exact ⟨rfl, rfl, ⟨ho_22, hw_22⟩, hcl, hlo⟩
theorem c_b_init4 {h : s_H} {n b : Nat} (ho : h b = .inr (8, [.null, .int 0, .int 0, .int 0])) (hb : b < n) (hcl : s_cl h n) (hn : n + 1 ≤ s_big) : s_Mt TJ4_init_da8c8 1 16 [.ref b] h n (fun o h1 n1 => o = .inl none ∧ n1 = n + 1 ∧ s_sb h1 b n 16 (fun _ => 0) 0 ∧ s_cl h1 (n + 1) ∧ s_lo h h1 b) := by
  refine s_Mt_of rfl (by decide) (by exact Nat.le_of_ble_eq_true rfl) ?_
  refine g_aload_n dJ4_init_da8c8_0 rfl (by rfl) ?_
  refine g_bipush 16 dJ4_init_da8c8_1 (by rfl) ?_
  refine g_callIg (rest := []) (c_b_init5 ho hb hcl hn) dJ4_init_da8c8_3 mJ5_init_d00df rfl lJ4_1 iJ5_init_d00df rfl rfl (by decide) rfl rfl (Nat.le_of_ble_eq_true rfl) (by omega) (by omega) (fun E h' n' z => by cases z.1) (s_lvs_vo (l := [(0, .ref b)]) (List.forall_mem_cons.mpr ⟨(by first | exact s_vo_r (by omega) | exact Or.inl (by omega) | exact Or.inr (by omega)), fun _ z => nomatch z⟩)) (fun _ z => nomatch z) (fun w9 h9 n9 z9 _ => ?_)
  obtain ⟨z1, rfl, z2⟩ := z9
  cases z1
  refine g_vreturn dJ4_init_da8c8_6 rfl ?_
  exact ⟨rfl, rfl, z2⟩
theorem c_b_ens0 {h : s_H} {n b v L c k : Nat} {f : Nat → Int32} (hsb : s_sb h b v L f c) (hb : b < n) (hv : v < n) (hk : k ≤ L) (hL : L < 1000) : s_Mt TJ5_ensureCapacityInternal_d00df 0 0 [.ref b, .int (nI k)] h n (s_re none h n) := by
  refine s_Mt_of rfl (by decide) (by exact Nat.le_of_ble_eq_true rfl) ?_
  obtain ⟨ho, hw⟩ := hsb
  refine g_aload_n dJ5_ensureCapacityInternal_d00df_0 rfl (by rfl) ?_
  refine g_getf dJ5_ensureCapacityInternal_d00df_1 fJ5_15 (by exact ho) (by omega) (by rfl) ?_
  refine g_balen dJ5_ensureCapacityInternal_d00df_4 (by exact hw) (by omega) ?_
  refine g_aload_n dJ5_ensureCapacityInternal_d00df_5 rfl (by rfl) ?_
  refine g_getf dJ5_ensureCapacityInternal_d00df_6 fJ5_22 (by exact ho) (by omega) (by rfl) ?_
  refine g_ishr dJ5_ensureCapacityInternal_d00df_9 ?_
  rw [nI_shr0 (by omega)]
  refine g_istore_n dJ5_ensureCapacityInternal_d00df_10 rfl (by decide) ?_
  refine g_iload_n dJ5_ensureCapacityInternal_d00df_11 rfl (by rfl) ?_
  refine g_iload_n dJ5_ensureCapacityInternal_d00df_12 rfl (by rfl) ?_
  refine g_isub dJ5_ensureCapacityInternal_d00df_13 ?_
  refine g_if_le (tgt := 38) dJ5_ensureCapacityInternal_d00df_14 (by decide) (fun _ => ?_) (fun c_14 => absurd (by
      rw [Int32.le_iff_toInt_le]
      rcases Nat.lt_or_ge k L with z | z
      · exact Int32.le_iff_toInt_le.mp (Int32.le_of_lt (nI_sblt z (by omega)))
      · rw [nI_sble z, show k - L = 0 by omega]
        exact Int.le_refl _) c_14)
  refine g_vreturn dJ5_ensureCapacityInternal_d00df_38 rfl ?_
  exact ⟨rfl, rfl, rfl⟩
theorem c_max {h : s_H} {n : Nat} (x y : Int32) : s_Mt TJ9_max_7cf53 0 0 [.int x, .int y] h n (s_re (some (.int (if x < y then y else x))) h n) := by
  refine s_Mt_ofF rfl (by decide +kernel) (by exact Nat.le_of_ble_eq_true rfl) ?_
  refine g_iload_n dJ9_max_7cf53_0 rfl (by rfl) ?_
  refine g_iload_n dJ9_max_7cf53_1 rfl (by rfl) ?_
  refine g_icmp_lt (tgt := 9) dJ9_max_7cf53_2 (by decide) (fun c_2 => ?_) (fun c_2 => ?_)
  · refine g_iload_n dJ9_max_7cf53_9 rfl (by rfl) ?_
    refine g_ireturn dJ9_max_7cf53_10 rfl ?_
    exact ⟨by first | rw [if_pos c_2] | rw [if_neg c_2], rfl, rfl⟩
  · refine g_iload_n dJ9_max_7cf53_5 rfl (by rfl) ?_
    refine g_goto (tgt := 10) dJ9_max_7cf53_6 (by decide) ?_
    refine g_ireturn dJ9_max_7cf53_10 rfl ?_
    exact ⟨by first | rw [if_pos c_2] | rw [if_neg c_2], rfl, rfl⟩
theorem c_min {h : s_H} {n : Nat} (x y : Int32) : s_Mt TJ9_min_7cf53 0 0 [.int x, .int y] h n (s_re (some (.int (if y < x then y else x))) h n) := by
  refine s_Mt_ofF rfl (by decide +kernel) (by exact Nat.le_of_ble_eq_true rfl) ?_
  refine g_iload_n dJ9_min_7cf53_0 rfl (by rfl) ?_
  refine g_iload_n dJ9_min_7cf53_1 rfl (by rfl) ?_
  refine g_icmp_gt (tgt := 9) dJ9_min_7cf53_2 (by decide) (fun c_2 => ?_) (fun c_2 => ?_)
  · refine g_iload_n dJ9_min_7cf53_9 rfl (by rfl) ?_
    refine g_ireturn dJ9_min_7cf53_10 rfl ?_
    exact ⟨by first | rw [if_pos c_2] | rw [if_neg c_2], rfl, rfl⟩
  · refine g_iload_n dJ9_min_7cf53_5 rfl (by rfl) ?_
    refine g_goto (tgt := 10) dJ9_min_7cf53_6 (by decide) ?_
    refine g_ireturn dJ9_min_7cf53_10 rfl ?_
    exact ⟨by first | rw [if_pos c_2] | rw [if_neg c_2], rfl, rfl⟩
theorem c_b_newLen {h : s_H} {n : Nat} {x : Int32} (hx : x = 2 ∨ x = 3) : s_Mt TJ8_newLength_cabcc 0 0 [.int 16, .int x, .int 18] h n (s_re (some (.int 34)) h n) := by
  refine s_Mt_of rfl (by decide) (by exact Nat.le_of_ble_eq_true rfl) ?_
  have hm : (16 : Int32) + (if x < 18 then 18 else x) = 34 := by rcases hx with rfl | rfl <;> decide
  refine g_iload_n dJ8_newLength_cabcc_0 rfl (by rfl) ?_
  refine g_iload_n dJ8_newLength_cabcc_1 rfl (by rfl) ?_
  refine g_iload_n dJ8_newLength_cabcc_2 rfl (by rfl) ?_
  refine g_callSg (rest := [.int 16]) (c_max _ _) dJ8_newLength_cabcc_3 mJ9_max_7cf53 rfl lJ8_194 sJ9_max_7cf53 (by decide) rfl rfl (Nat.le_of_ble_eq_true rfl) (by omega) (by omega) (fun E h' n' z => by cases z.1) (s_lvs_vo (l := [(0, .int 16), (1, .int x), (2, .int 18)]) (List.forall_mem_cons.mpr ⟨trivial, List.forall_mem_cons.mpr ⟨trivial, List.forall_mem_cons.mpr ⟨trivial, fun _ z => nomatch z⟩⟩⟩)) (List.forall_mem_cons.mpr ⟨trivial, (fun _ z => nomatch z)⟩) (fun w9 h9 n9 z9 _ => ?_)
  obtain ⟨z1, z2, z3⟩ := z9
  obtain rfl := z2.symm
  obtain rfl := z3.symm
  cases z1
  refine g_iadd dJ8_newLength_cabcc_6 ?_
  rw [hm]
  refine g_istore_n dJ8_newLength_cabcc_7 rfl (by decide) ?_
  refine g_iconst 0 dJ8_newLength_cabcc_8 (by rfl) ?_
  refine g_iload_n dJ8_newLength_cabcc_9 rfl (by rfl) ?_
  refine g_icmp_ge (tgt := 21) dJ8_newLength_cabcc_10 (by decide) (fun c_10 => absurd c_10 (by decide)) (fun _ => ?_)
  refine g_iload_n dJ8_newLength_cabcc_13 rfl (by rfl) ?_
  refine g_ldc dJ8_newLength_cabcc_14 kJ8_200 ?_
  refine g_icmp_gt (tgt := 21) dJ8_newLength_cabcc_16 (by decide) (fun c_16 => absurd c_16 (by decide)) (fun _ => ?_)
  refine g_iload_n dJ8_newLength_cabcc_19 rfl (by rfl) ?_
  refine g_ireturn dJ8_newLength_cabcc_20 rfl ?_
  exact ⟨rfl, rfl, rfl⟩
theorem c_b_newCap {h : s_H} {n b v c : Nat} {f : Nat → Int32} {x : Int32} (hsb : s_sb h b v 16 f c) (hb : b < n) (hv : v < n) (hx : x = 18 ∨ x = 19) : s_Mt TJ5_newCapacity_0f7a4 0 0 [.ref b, .int x] h n (s_re (some (.int 34)) h n) := by
  refine s_Mt_of rfl (by decide) (by exact Nat.le_of_ble_eq_true rfl) ?_
  obtain ⟨ho, hw⟩ := hsb
  have hx2 : x - 16 = 2 ∨ x - 16 = 3 := by rcases hx with rfl | rfl <;> decide
  refine g_aload_n dJ5_newCapacity_0f7a4_0 rfl (by rfl) ?_
  refine g_getf dJ5_newCapacity_0f7a4_1 fJ5_15 (by exact ho) (by omega) (by rfl) ?_
  refine g_balen dJ5_newCapacity_0f7a4_4 (by exact hw) (by omega) ?_
  refine g_istore_n dJ5_newCapacity_0f7a4_5 rfl (by decide) ?_
  refine g_iload_n dJ5_newCapacity_0f7a4_6 rfl (by rfl) ?_
  refine g_aload_n dJ5_newCapacity_0f7a4_7 rfl (by rfl) ?_
  refine g_getf dJ5_newCapacity_0f7a4_8 fJ5_22 (by exact ho) (by omega) (by rfl) ?_
  refine g_ishl dJ5_newCapacity_0f7a4_11 ?_
  rw [nI_shl0]
  refine g_istore_n dJ5_newCapacity_0f7a4_12 rfl (by decide) ?_
  refine g_iload_n dJ5_newCapacity_0f7a4_13 rfl (by rfl) ?_
  refine g_iload_n dJ5_newCapacity_0f7a4_14 rfl (by rfl) ?_
  refine g_isub dJ5_newCapacity_0f7a4_15 ?_
  refine g_istore dJ5_newCapacity_0f7a4_16 (by decide) ?_
  refine g_iload_n dJ5_newCapacity_0f7a4_18 rfl (by rfl) ?_
  refine g_iload dJ5_newCapacity_0f7a4_19 (by rfl) ?_
  refine g_iload_n dJ5_newCapacity_0f7a4_21 rfl (by rfl) ?_
  refine g_iconst 2 dJ5_newCapacity_0f7a4_22 (by rfl) ?_
  refine g_aload_n dJ5_newCapacity_0f7a4_23 rfl (by rfl) ?_
  refine g_getf dJ5_newCapacity_0f7a4_24 fJ5_22 (by exact ho) (by omega) (by rfl) ?_
  refine g_ishl dJ5_newCapacity_0f7a4_27 ?_
  refine g_iadd dJ5_newCapacity_0f7a4_28 ?_
  rw [nI_shl0]
  refine g_lv (l := [(0, .ref b), (1, .int x), (2, .int 16), (3, .int x), (4, .int (x - 16))]) ?_ ⟨by rfl, by rfl, by rfl, by rfl, by rfl, trivial⟩
  refine g_callSg (rest := []) (c_b_newLen hx2) dJ5_newCapacity_0f7a4_29 mJ8_newLength_cabcc rfl lJ5_114 sJ8_newLength_cabcc (by decide) rfl rfl (Nat.le_of_ble_eq_true rfl) (by omega) (by omega) (fun E h' n' z => by cases z.1) (s_lvs_vo (l := [(0, .ref b), (1, .int x), (2, .int 16), (3, .int x), (4, .int (x - 16))]) (List.forall_mem_cons.mpr ⟨(by first | exact s_vo_r (by omega) | exact Or.inl (by omega) | exact Or.inr (by omega)), List.forall_mem_cons.mpr ⟨trivial, List.forall_mem_cons.mpr ⟨trivial, List.forall_mem_cons.mpr ⟨trivial, List.forall_mem_cons.mpr ⟨trivial, fun _ z => nomatch z⟩⟩⟩⟩⟩)) (fun _ z => nomatch z) (fun w9 h9 n9 z9 _ => ?_)
  obtain ⟨z1, z2, z3⟩ := z9
  obtain rfl := z2.symm
  obtain rfl := z3.symm
  cases z1
  refine g_istore dJ5_newCapacity_0f7a4_32 (by decide) ?_
  refine g_iload dJ5_newCapacity_0f7a4_34 (by rfl) ?_
  refine g_ldc dJ5_newCapacity_0f7a4_36 kJ5_39 ?_
  refine g_icmp_ne (tgt := 51) dJ5_newCapacity_0f7a4_38 (by decide) (fun _ => ?_) (fun c_38 => absurd c_38 (by decide))
  refine g_iload dJ5_newCapacity_0f7a4_51 (by rfl) ?_
  refine g_aload_n dJ5_newCapacity_0f7a4_53 rfl (by rfl) ?_
  refine g_getf dJ5_newCapacity_0f7a4_54 fJ5_22 (by exact ho) (by omega) (by rfl) ?_
  refine g_ishr dJ5_newCapacity_0f7a4_57 ?_
  refine g_ireturn dJ5_newCapacity_0f7a4_58 rfl ?_
  exact ⟨rfl, rfl, rfl⟩
theorem k_fit : ∀ i, i < 14 → ∀ j, j < s_len.getD i 0 → fits .byte (.int ((s_byt.getD i []).getD j 0)) = true := by decide +kernel
theorem nI_add' (a b : Nat) : nI a + nI b = nI (a + b) := by
  apply Int32.toBitVec_inj.mp
  rw [Int32.toBitVec_add]
  exact (BitVec.ofNat_add a b).symm
theorem k_neg : ∀ d, d < 80 → - -(nI d) = nI d ∧ ¬ nI d < 0 ∧ 0 ≤ nI d ∧ (-100 : Int32) < -(nI d) := by decide +kernel
theorem k_neg1 : ∀ d, d < 10 → ¬ -(nI d) ≤ (-10 : Int32) ∧ (-9 : Int32) ≤ -(nI d) ∧ (nI (48 + d % 10)).toInt8.toInt32 = nI (48 + d) := by decide +kernel
theorem k_neg2 : ∀ d, d < 80 → 10 ≤ d → -(nI d) ≤ (-10 : Int32) ∧ ¬ -(nI d) ≤ (-100 : Int32) ∧ ¬ (-9 : Int32) ≤ -(nI d) ∧ (nI (48 + d % 10)).toInt8.toInt32 = nI (48 + d % 10) ∧ (nI (48 + d / 10)).toInt8.toInt32 = nI (48 + d / 10) := by decide +kernel
theorem c_b_copyOf {h : s_H} {n a : Nat} {f : Nat → Int32} (hw : h a = .inl (2, 16, .inl f)) (ha : a < n) (hcl : s_cl h n) (hn : n + 1 ≤ s_big) (hf : ∀ i, i < 16 → fits .byte (.int (f i)) = true) : s_Mt TJ7_copyOf_9075b 1 34 [.ref a, .int 34] h n (fun o h1 n1 => o = .inl (some (.ref n)) ∧ n1 = n + 1 ∧ h1 n = .inl (2, 34, .inl (va_cpy f (fun _ => 0) 0 0 16)) ∧ s_cl h1 (n + 1) ∧ s_lo h h1 n) := by
  refine s_Mt_of rfl (by decide) (by exact Nat.le_of_ble_eq_true rfl) ?_
  refine g_iload_n dJ7_copyOf_9075b_0 rfl (by rfl) ?_
  refine g_aload_n dJ7_copyOf_9075b_1 rfl (by rfl) ?_
  refine g_balen dJ7_copyOf_9075b_2 (by exact hw) (by omega) ?_
  refine g_icmp_ne (tgt := 14) dJ7_copyOf_9075b_3 (by decide) (fun _ => ?_) (fun c_3 => absurd c_3 (by decide))
  refine g_iload_n dJ7_copyOf_9075b_14 rfl (by rfl) ?_
  refine g_newaB (N' := 34) dJ7_copyOf_9075b_15 wa_B rfl (by omega) (by omega) hcl (s_lvs_vo (l := [(0, .ref a), (1, .int 34)]) (List.forall_mem_cons.mpr ⟨(by first | exact s_vo_r (by omega) | exact Or.inl (by omega) | exact Or.inr (by omega)), List.forall_mem_cons.mpr ⟨trivial, fun _ z => nomatch z⟩⟩)) (fun _ z => nomatch z) (by omega) (by omega) (fun h1 e1 hcl => ?_)
  have hw := s_up_off e1 (by omega) hw
  have hx := s_up_at e1
  have hlo := (s_lo.rf (d := n)).up e1 (Nat.le_refl _)
  refine g_astore_n dJ7_copyOf_9075b_17 rfl (by decide) ?_
  refine g_lv (l := [(0, .ref a), (1, .int 34), (2, .ref n)]) ?_ ⟨by rfl, by rfl, by rfl, trivial⟩
  refine g_aload_n dJ7_copyOf_9075b_18 rfl (by rfl) ?_
  refine g_iconst 0 dJ7_copyOf_9075b_19 (by rfl) ?_
  refine g_aload_n dJ7_copyOf_9075b_20 rfl (by rfl) ?_
  refine g_iconst 0 dJ7_copyOf_9075b_21 (by rfl) ?_
  refine g_aload_n dJ7_copyOf_9075b_22 rfl (by rfl) ?_
  refine g_balen dJ7_copyOf_9075b_23 (by exact hw) (by omega) ?_
  refine g_iload_n dJ7_copyOf_9075b_24 rfl (by rfl) ?_
  refine g_callSg (rest := [.int 0, .ref n, .int 0, .ref a]) (c_min _ _) dJ7_copyOf_9075b_25 mJ9_min_7cf53 rfl lJ7_304 sJ9_min_7cf53 (by decide) rfl rfl (Nat.le_of_ble_eq_true rfl) (by omega) (by omega) (fun E h' n' z => by cases z.1) (s_lvs_vo (l := [(0, .ref a), (1, .int 34), (2, .ref n)]) (List.forall_mem_cons.mpr ⟨(by first | exact s_vo_r (by omega) | exact Or.inl (by omega) | exact Or.inr (by omega)), List.forall_mem_cons.mpr ⟨trivial, List.forall_mem_cons.mpr ⟨(by first | exact s_vo_r (by omega) | exact Or.inl (by omega) | exact Or.inr (by omega)), fun _ z => nomatch z⟩⟩⟩)) (List.forall_mem_cons.mpr ⟨trivial, (List.forall_mem_cons.mpr ⟨(by first | exact s_vo_r (by omega) | exact Or.inl (by omega) | exact Or.inr (by omega)), (List.forall_mem_cons.mpr ⟨trivial, (List.forall_mem_cons.mpr ⟨(by first | exact s_vo_r (by omega) | exact Or.inl (by omega) | exact Or.inr (by omega)), (fun _ z => nomatch z)⟩)⟩)⟩)⟩) (fun w9 h9 n9 z9 _ => ?_)
  obtain ⟨z1, z2, z3⟩ := z9
  obtain rfl := z2.symm
  obtain rfl := z3.symm
  cases z1
  rw [if_neg (show ¬ (34 : Int32) < nI 16 by decide)]
  refine g_copyb (sp := 0) (dp := 0) (m9 := 16) dJ7_copyOf_9075b_28 cpJ7_150 (by exact hw) (by exact hx) (by omega) (by omega) rfl rfl rfl (by omega) (by omega) (by omega) (fun i hi => by rw [Nat.zero_add]; exact hf i hi) (Nat.le_of_ble_eq_true rfl) (fun h2 e2 => ?_)
  have hcl := hcl.up e2 (Nat.le_refl _) trivial (fun j a c => by omega)
  have hlo := hlo.up e2 (Nat.le_refl _)
  refine g_aload_n dJ7_copyOf_9075b_31 rfl (by rfl) ?_
  exact g_ret (some (.ref n)) ⟨dJ7_copyOf_9075b_32, _, rfl, Or.inr ⟨_, rfl⟩⟩ ⟨rfl, rfl, s_up_at e2, hcl, hlo⟩
theorem c_b_ens1 {h : s_H} {n b v c : Nat} {f : Nat → Int32} {x : Int32} (hsb : s_sb h b v 16 f c) (hb : b < n) (hv : v < n) (hbv : b < v) (hcl : s_cl h n) (hn : n + 1 ≤ s_big) (hf : ∀ i, i < 16 → fits .byte (.int (f i)) = true) (hx : x = 18 ∨ x = 19) : s_Mt TJ5_ensureCapacityInternal_d00df 1 34 [.ref b, .int x] h n (fun o h1 n1 => o = .inl none ∧ n1 = n + 1 ∧ s_sb h1 b n 34 (va_cpy f (fun _ => 0) 0 0 16) c ∧ s_cl h1 (n + 1) ∧ s_lo h h1 b) := by
  refine s_Mt_of rfl (by decide) (by exact Nat.le_of_ble_eq_true rfl) ?_
  obtain ⟨ho, hw⟩ := hsb
  have hsb : s_sb h b v 16 f c := ⟨ho, hw⟩
  refine g_aload_n dJ5_ensureCapacityInternal_d00df_0 rfl (by rfl) ?_
  refine g_getf dJ5_ensureCapacityInternal_d00df_1 fJ5_15 (by exact ho) (by omega) (by rfl) ?_
  refine g_balen dJ5_ensureCapacityInternal_d00df_4 (by exact hw) (by omega) ?_
  refine g_aload_n dJ5_ensureCapacityInternal_d00df_5 rfl (by rfl) ?_
  refine g_getf dJ5_ensureCapacityInternal_d00df_6 fJ5_22 (by exact ho) (by omega) (by rfl) ?_
  refine g_ishr dJ5_ensureCapacityInternal_d00df_9 ?_
  rw [nI_shr0 (by omega)]
  refine g_istore_n dJ5_ensureCapacityInternal_d00df_10 rfl (by decide) ?_
  refine g_lv (l := [(0, .ref b), (1, .int x), (2, .int 16)]) ?_ ⟨by rfl, by rfl, by rfl, trivial⟩
  refine g_iload_n dJ5_ensureCapacityInternal_d00df_11 rfl (by rfl) ?_
  refine g_iload_n dJ5_ensureCapacityInternal_d00df_12 rfl (by rfl) ?_
  refine g_isub dJ5_ensureCapacityInternal_d00df_13 ?_
  refine g_if_le (tgt := 38) dJ5_ensureCapacityInternal_d00df_14 (by decide) (fun c_14 => absurd c_14 (by rcases hx with rfl | rfl <;> decide)) (fun _ => ?_)
  refine g_aload_n dJ5_ensureCapacityInternal_d00df_17 rfl (by rfl) ?_
  refine g_aload_n dJ5_ensureCapacityInternal_d00df_18 rfl (by rfl) ?_
  refine g_getf dJ5_ensureCapacityInternal_d00df_19 fJ5_15 (by exact ho) (by omega) (by rfl) ?_
  refine g_aload_n dJ5_ensureCapacityInternal_d00df_22 rfl (by rfl) ?_
  refine g_iload_n dJ5_ensureCapacityInternal_d00df_23 rfl (by rfl) ?_
  refine g_callUg (rest := [.ref v, .ref b]) (c_b_newCap hsb hb hv hx) dJ5_ensureCapacityInternal_d00df_24 mJ5_newCapacity_0f7a4 rfl lJ5_104 nJ5_newCapacity_0f7a4 iJ5_newCapacity_0f7a4 qJ5_newCapacity_0f7a4 (by decide) (by omega) (by exact ho) rfl rfl (Nat.le_of_ble_eq_true rfl) (by omega) (by omega) (fun E h' n' z => by cases z.1) (s_lvs_vo (l := [(0, .ref b), (1, .int x), (2, .int 16)]) (List.forall_mem_cons.mpr ⟨(by first | exact s_vo_r (by omega) | exact Or.inl (by omega) | exact Or.inr (by omega)), List.forall_mem_cons.mpr ⟨trivial, List.forall_mem_cons.mpr ⟨trivial, fun _ z => nomatch z⟩⟩⟩)) (List.forall_mem_cons.mpr ⟨(by first | exact s_vo_r (by omega) | exact Or.inl (by omega) | exact Or.inr (by omega)), (List.forall_mem_cons.mpr ⟨(by first | exact s_vo_r (by omega) | exact Or.inl (by omega) | exact Or.inr (by omega)), (fun _ z => nomatch z)⟩)⟩) (fun w9 h9 n9 z9 _ => ?_)
  obtain ⟨z1, z2, z3⟩ := z9
  obtain rfl := z2.symm
  obtain rfl := z3.symm
  cases z1
  refine g_aload_n dJ5_ensureCapacityInternal_d00df_27 rfl (by rfl) ?_
  refine g_getf dJ5_ensureCapacityInternal_d00df_28 fJ5_22 (by exact ho) (by omega) (by rfl) ?_
  refine g_ishl dJ5_ensureCapacityInternal_d00df_31 ?_
  rw [nI_shl0]
  refine g_callSg (rest := [.ref b]) (c_b_copyOf hw hv hcl hn hf) dJ5_ensureCapacityInternal_d00df_32 mJ7_copyOf_9075b rfl lJ5_108 sJ7_copyOf_9075b (by decide) rfl rfl (Nat.le_of_ble_eq_true rfl) (by omega) (by omega) (fun E h' n' z => by cases z.1) (s_lvs_vo (l := [(0, .ref b), (1, .int x), (2, .int 16)]) (List.forall_mem_cons.mpr ⟨(by first | exact s_vo_r (by omega) | exact Or.inl (by omega) | exact Or.inr (by omega)), List.forall_mem_cons.mpr ⟨trivial, List.forall_mem_cons.mpr ⟨trivial, fun _ z => nomatch z⟩⟩⟩)) (List.forall_mem_cons.mpr ⟨(by first | exact s_vo_r (by omega) | exact Or.inl (by omega) | exact Or.inr (by omega)), (fun _ z => nomatch z)⟩) (fun w9 h9 n9 z9 _ => ?_)
  obtain ⟨z1, rfl, hy, hcl, hlo⟩ := z9
  cases z1
  have ho := (hlo b hb).trans ho
  have hlo : s_lo _ h9 b := fun j hj => hlo j (by omega)
  refine g_putf' dJ5_ensureCapacityInternal_d00df_35 pJ5_15 (by exact ho) (by omega) (by exact Nat.le_of_ble_eq_true rfl) (by rfl) (by rfl) (fun h2 e2 => ?_)
  have ho := s_up_at e2
  have hy := s_up_off e2 (by omega) hy
  have hcl := hcl.up e2 (Nat.le_refl _) (List.forall_mem_cons.mpr ⟨(by first | exact s_vo_r (by omega) | exact Or.inl (by omega) | exact Or.inr (by omega)), (List.forall_mem_cons.mpr ⟨trivial, (List.forall_mem_cons.mpr ⟨trivial, (List.forall_mem_cons.mpr ⟨trivial, (fun _ z => nomatch z)⟩)⟩)⟩)⟩) (fun j a c => by omega)
  have hlo := hlo.up e2 (Nat.le_refl _)
  refine g_vreturn dJ5_ensureCapacityInternal_d00df_38 rfl ?_
  exact ⟨rfl, rfl, ⟨ho, hy⟩, hcl, hlo⟩
theorem c_t_bytes {h : s_H} {n i v L dp : Nat} {g : Nat → Int32} (hi : i < 14) (hw : h v = .inl (2, L, .inl g)) (hv : v < n) (hdp : dp + s_len.getD i 0 ≤ L) (hL : L < 1000) : s_Mt TJ0_getBytes_840e7 0 0 [.ref (s_big + i), .ref v, .int (nI dp), .int 0] h n (s_re none (s_up h v (.inl (2, L, .inl (va_cpy (fun j => (s_byt.getD i []).getD j 0) g 0 dp (s_len.getD i 0))))) n) := by
  refine s_Mt_of rfl (by decide) (by exact Nat.le_of_ble_eq_true rfl) ?_
  have hl := k_len i hi
  refine g_aload_n dJ0_getBytes_840e7_0 rfl (by rfl) ?_
  refine g_callT (c_coder hi) hi dJ0_getBytes_840e7_1 mJ0_coder_7d493 rfl rfl lJ0_335 iJ0_coder_7d493 vJ0_coder_7d493 (by decide) rfl rfl (Nat.le_of_ble_eq_true rfl) ?_
  refine g_iload_n dJ0_getBytes_840e7_4 rfl (by rfl) ?_
  refine g_icmp_ne (tgt := 28) dJ0_getBytes_840e7_5 (by decide) (fun c_5 => absurd rfl c_5) (fun _ => ?_)
  refine g_aload_n dJ0_getBytes_840e7_8 rfl (by rfl) ?_
  refine g_kval hi rfl dJ0_getBytes_840e7_9 ?_
  refine g_iconst 0 dJ0_getBytes_840e7_12 (by rfl) ?_
  refine g_aload_n dJ0_getBytes_840e7_13 rfl (by rfl) ?_
  refine g_iload_n dJ0_getBytes_840e7_14 rfl (by rfl) ?_
  refine g_iload_n dJ0_getBytes_840e7_15 rfl (by rfl) ?_
  refine g_ishl dJ0_getBytes_840e7_16 ?_
  rw [nI_shl0]
  refine g_aload_n dJ0_getBytes_840e7_17 rfl (by rfl) ?_
  refine g_kval hi rfl dJ0_getBytes_840e7_18 ?_
  refine g_klen hi dJ0_getBytes_840e7_21 ?_
  refine g_copyt (sp := 0) (dp := dp) (m9 := s_len.getD i 0) dJ0_getBytes_840e7_22 cpJ0_212 hi hw hv rfl rfl rfl (by omega) (by omega) (by omega) (fun j hj => by rw [Nat.zero_add]; exact k_fit i hi j hj) (Nat.le_of_ble_eq_true rfl) (fun h2 e2 => ?_)
  refine g_goto (tgt := 43) dJ0_getBytes_840e7_25 (by decide) ?_
  refine g_vreturn dJ0_getBytes_840e7_43 rfl ?_
  exact ⟨rfl, e2, rfl⟩
theorem c_b_infl {h : s_H} {n b v c i : Nat} (hi : i < 14) (ho : h b = .inr (8, [.ref v, .int 0, .int 0, .int (nI c)])) (hb : b < n) : s_Mt TJ5_inflateIfNeededFor_a7421 0 0 [.ref b, .ref (s_big + i)] h n (s_re none h n) := by
  refine s_Mt_of rfl (by decide) (by exact Nat.le_of_ble_eq_true rfl) ?_
  refine g_kcs5 rfl dJ5_inflateIfNeededFor_a7421_0 ?_
  refine g_if_eq (tgt := 21) dJ5_inflateIfNeededFor_a7421_3 (by decide) (fun c_3 => absurd c_3 (by decide)) (fun _ => ?_)
  refine g_aload_n dJ5_inflateIfNeededFor_a7421_6 rfl (by rfl) ?_
  refine g_getf dJ5_inflateIfNeededFor_a7421_7 fJ5_22 (by exact ho) (by omega) (by rfl) ?_
  refine g_aload_n dJ5_inflateIfNeededFor_a7421_10 rfl (by rfl) ?_
  refine g_callT (c_coder hi) hi dJ5_inflateIfNeededFor_a7421_11 mJ0_coder_7d493 rfl rfl lJ5_40 iJ0_coder_7d493 vJ0_coder_7d493 (by decide) rfl rfl (Nat.le_of_ble_eq_true rfl) ?_
  refine g_icmp_eq (tgt := 21) dJ5_inflateIfNeededFor_a7421_14 (by decide) (fun _ => ?_) (fun c_14 => absurd rfl c_14)
  refine g_vreturn dJ5_inflateIfNeededFor_a7421_21 rfl ?_
  exact ⟨rfl, rfl, rfl⟩
theorem c_b_put {h : s_H} {n b v c i L dp : Nat} {f : Nat → Int32} (hi : i < 14) (hsb : s_sb h b v L f c) (hb : b < n) (hv : v < n) (hdp : dp + s_len.getD i 0 ≤ L) (hL : L < 1000) : s_Mt TJ5_putStringAt_47b60 0 0 [.ref b, .int (nI dp), .ref (s_big + i)] h n (s_re none (s_up h v (.inl (2, L, .inl (va_cpy (fun j => (s_byt.getD i []).getD j 0) f 0 dp (s_len.getD i 0))))) n) := by
  refine s_Mt_of rfl (by decide) (by exact Nat.le_of_ble_eq_true rfl) ?_
  obtain ⟨ho, hw⟩ := hsb
  refine g_aload_n dJ5_putStringAt_47b60_0 rfl (by rfl) ?_
  refine g_aload_n dJ5_putStringAt_47b60_1 rfl (by rfl) ?_
  refine g_callUg (rest := []) (c_b_infl hi ho hb) dJ5_putStringAt_47b60_2 mJ5_inflateIfNeededFor_a7421 rfl lJ5_397 nJ5_inflateIfNeededFor_a7421 iJ5_inflateIfNeededFor_a7421 qJ5_inflateIfNeededFor_a7421 (by decide) (by omega) (by exact ho) rfl rfl (Nat.le_of_ble_eq_true rfl) (by omega) (by omega) (fun E h' n' z => by cases z.1) (s_lvs_vo (l := [(0, .ref b), (1, .int (nI dp)), (2, .ref (s_big + i))]) (List.forall_mem_cons.mpr ⟨(by first | exact s_vo_r (by omega) | exact Or.inl (by omega) | exact Or.inr (by omega)), List.forall_mem_cons.mpr ⟨trivial, List.forall_mem_cons.mpr ⟨(by first | exact s_vo_r (by omega) | exact Or.inl (by omega) | exact Or.inr (by omega)), fun _ z => nomatch z⟩⟩⟩)) (fun _ z => nomatch z) (fun w9 h9 n9 z9 _ => ?_)
  obtain ⟨z1, z2, z3⟩ := z9
  obtain rfl := z2.symm
  obtain rfl := z3.symm
  cases z1
  refine g_aload_n dJ5_putStringAt_47b60_5 rfl (by rfl) ?_
  refine g_aload_n dJ5_putStringAt_47b60_6 rfl (by rfl) ?_
  refine g_getf dJ5_putStringAt_47b60_7 fJ5_15 (by exact ho) (by omega) (by rfl) ?_
  refine g_iload_n dJ5_putStringAt_47b60_10 rfl (by rfl) ?_
  refine g_aload_n dJ5_putStringAt_47b60_11 rfl (by rfl) ?_
  refine g_getf dJ5_putStringAt_47b60_12 fJ5_22 (by exact ho) (by omega) (by rfl) ?_
  refine g_callT (c_t_bytes hi hw hv hdp hL) hi dJ5_putStringAt_47b60_15 mJ0_getBytes_840e7 rfl rfl lJ5_399 iJ0_getBytes_840e7 vJ0_getBytes_840e7 (by decide) rfl rfl (Nat.le_of_ble_eq_true rfl) ?_
  refine g_vreturn dJ5_putStringAt_47b60_18 rfl ?_
  exact ⟨rfl, rfl, rfl⟩
theorem c_b_app5 {h : s_H} {n b v c i L : Nat} {f : Nat → Int32} (hi : i < 14) (hsb : s_sb h b v L f c) (hb : b < n) (hv : v < n) (hbv : b < v) (hcl : s_cl h n) (hn : n + 1 ≤ s_big) (hc : c + s_len.getD i 0 ≤ L) (hL : L < 1000) : s_Mt TJ5_append_cf1ce 0 0 [.ref b, .ref (s_big + i)] h n (fun o h1 n1 => o = .inl (some (.ref b)) ∧ n1 = n ∧ s_sb h1 b v L (va_cpy (fun j => (s_byt.getD i []).getD j 0) f 0 c (s_len.getD i 0)) (c + s_len.getD i 0) ∧ s_cl h1 (n) ∧ s_lo h h1 b) := by
  refine s_Mt_of rfl (by decide) (by exact Nat.le_of_ble_eq_true rfl) ?_
  have hl := k_len i hi
  have hsb9 := hsb
  obtain ⟨ho, hw⟩ := hsb9
  refine g_aload_n dJ5_append_cf1ce_0 rfl (by rfl) ?_
  refine g_ifnonnull (tgt := 9) dJ5_append_cf1ce_1 (by decide) ?_
  refine g_aload_n dJ5_append_cf1ce_9 rfl (by rfl) ?_
  refine g_callT (c_length hi) hi dJ5_append_cf1ce_10 mJ0_length_8abf5 rfl rfl lJ5_32 iJ0_length_8abf5 vJ0_length_8abf5 (by decide) rfl rfl (Nat.le_of_ble_eq_true rfl) ?_
  refine g_istore_n dJ5_append_cf1ce_13 rfl (by decide) ?_
  refine g_lv (l := [(0, .ref b), (1, .ref (s_big + i)), (2, .int (nI (s_len.getD i 0)))]) ?_ ⟨by rfl, by rfl, by rfl, trivial⟩
  refine g_aload_n dJ5_append_cf1ce_14 rfl (by rfl) ?_
  refine g_aload_n dJ5_append_cf1ce_15 rfl (by rfl) ?_
  refine g_getf dJ5_append_cf1ce_16 fJ5_79 (by exact ho) (by omega) (by rfl) ?_
  refine g_iload_n dJ5_append_cf1ce_19 rfl (by rfl) ?_
  refine g_iadd dJ5_append_cf1ce_20 ?_
  rw [nI_add']
  refine g_callUg (rest := []) (c_b_ens0 hsb hb hv hc hL) dJ5_append_cf1ce_21 mJ5_ensureCapacityInternal_d00df rfl lJ5_100 nJ5_ensureCapacityInternal_d00df iJ5_ensureCapacityInternal_d00df qJ5_ensureCapacityInternal_d00df (by decide) (by omega) (by exact ho) rfl rfl (Nat.le_of_ble_eq_true rfl) (by omega) (by omega) (fun E h' n' z => by cases z.1) (s_lvs_vo (l := [(0, .ref b), (1, .ref (s_big + i)), (2, .int (nI (s_len.getD i 0)))]) (List.forall_mem_cons.mpr ⟨(by first | exact s_vo_r (by omega) | exact Or.inl (by omega) | exact Or.inr (by omega)), List.forall_mem_cons.mpr ⟨(by first | exact s_vo_r (by omega) | exact Or.inl (by omega) | exact Or.inr (by omega)), List.forall_mem_cons.mpr ⟨trivial, fun _ z => nomatch z⟩⟩⟩)) (fun _ z => nomatch z) (fun w9 h9 n9 z9 _ => ?_)
  obtain ⟨z1, z2, z3⟩ := z9
  obtain rfl := z2.symm
  obtain rfl := z3.symm
  cases z1
  have hlo := s_lo.rf (h := h) (d := b)
  refine g_aload_n dJ5_append_cf1ce_24 rfl (by rfl) ?_
  refine g_aload_n dJ5_append_cf1ce_25 rfl (by rfl) ?_
  refine g_getf dJ5_append_cf1ce_26 fJ5_79 (by exact ho) (by omega) (by rfl) ?_
  refine g_aload_n dJ5_append_cf1ce_29 rfl (by rfl) ?_
  refine g_callUg (rest := []) (c_b_put hi ⟨ho, hw⟩ (by omega) (by omega) (by omega) (by omega)) dJ5_append_cf1ce_30 mJ5_putStringAt_47b60 rfl lJ5_208 nJ5_putStringAt_47b60 iJ5_putStringAt_47b60 qJ5_putStringAt_47b60 (by decide) (by omega) (by exact ho) rfl rfl (Nat.le_of_ble_eq_true rfl) (by omega) (by omega) (fun E h' n' z => by cases z.1) (s_lvs_vo (l := [(0, .ref b), (1, .ref (s_big + i)), (2, .int (nI (s_len.getD i 0)))]) (List.forall_mem_cons.mpr ⟨(by first | exact s_vo_r (by omega) | exact Or.inl (by omega) | exact Or.inr (by omega)), List.forall_mem_cons.mpr ⟨(by first | exact s_vo_r (by omega) | exact Or.inl (by omega) | exact Or.inr (by omega)), List.forall_mem_cons.mpr ⟨trivial, fun _ z => nomatch z⟩⟩⟩)) (fun _ z => nomatch z) (fun w9 h9 n9 z9 _ => ?_)
  obtain ⟨z1, e5, z3⟩ := z9
  subst z3
  cases z1
  have ho := s_up_off e5 (by omega) ho
  have hw := s_up_at e5
  have hcl := hcl.up e5 (Nat.le_refl _) trivial (fun j a c => by omega)
  have hlo := hlo.up e5 (by omega)
  refine g_aload_n dJ5_append_cf1ce_33 rfl (by rfl) ?_
  refine g_dup dJ5_append_cf1ce_34 (by rfl) ?_
  refine g_getf dJ5_append_cf1ce_35 fJ5_79 (by exact ho) (by omega) (by rfl) ?_
  refine g_iload_n dJ5_append_cf1ce_38 rfl (by rfl) ?_
  refine g_iadd dJ5_append_cf1ce_39 ?_
  rw [nI_add']
  refine g_putf' dJ5_append_cf1ce_40 pJ5_79 (by exact ho) (by omega) (by exact Nat.le_of_ble_eq_true rfl) (by rfl) (by rfl) (fun h2 e2 => ?_)
  have ho := s_up_at e2
  have hw := s_up_off e2 (by omega) hw
  have hcl := hcl.up e2 (Nat.le_refl _) (List.forall_mem_cons.mpr ⟨(by first | exact s_vo_r (by omega) | exact Or.inl (by omega) | exact Or.inr (by omega)), (List.forall_mem_cons.mpr ⟨trivial, (List.forall_mem_cons.mpr ⟨trivial, (List.forall_mem_cons.mpr ⟨trivial, (fun _ z => nomatch z)⟩)⟩)⟩)⟩) (fun j a c => by omega)
  have hlo := hlo.up e2 (Nat.le_refl _)
  refine g_aload_n dJ5_append_cf1ce_43 rfl (by rfl) ?_
  exact g_ret (some (.ref b)) ⟨dJ5_append_cf1ce_44, _, rfl, Or.inl ⟨_, rfl⟩⟩ ⟨rfl, rfl, ⟨ho, hw⟩, hcl, hlo⟩
theorem c_b_app5g {h : s_H} {n b v c i : Nat} {f : Nat → Int32} (hi : i < 14) (hsb : s_sb h b v 16 f c) (hb : b < n) (hv : v < n) (hbv : b < v) (hcl : s_cl h n) (hn : n + 1 ≤ s_big) (hf : ∀ j, j < 16 → fits .byte (.int (f j)) = true) (hx : nI (c + s_len.getD i 0) = 18 ∨ nI (c + s_len.getD i 0) = 19) (hc : c + s_len.getD i 0 ≤ 34) : s_Mt TJ5_append_cf1ce 1 34 [.ref b, .ref (s_big + i)] h n (fun o h1 n1 => o = .inl (some (.ref b)) ∧ n1 = n + 1 ∧ s_sb h1 b n 34 (va_cpy (fun j => (s_byt.getD i []).getD j 0) (va_cpy f (fun _ => 0) 0 0 16) 0 c (s_len.getD i 0)) (c + s_len.getD i 0) ∧ s_cl h1 (n + 1) ∧ s_lo h h1 b) := by
  refine s_Mt_of rfl (by decide) (by exact Nat.le_of_ble_eq_true rfl) ?_
  have hl := k_len i hi
  have hsb9 := hsb
  obtain ⟨ho, hw⟩ := hsb9
  refine g_aload_n dJ5_append_cf1ce_0 rfl (by rfl) ?_
  refine g_ifnonnull (tgt := 9) dJ5_append_cf1ce_1 (by decide) ?_
  refine g_aload_n dJ5_append_cf1ce_9 rfl (by rfl) ?_
  refine g_callT (c_length hi) hi dJ5_append_cf1ce_10 mJ0_length_8abf5 rfl rfl lJ5_32 iJ0_length_8abf5 vJ0_length_8abf5 (by decide) rfl rfl (Nat.le_of_ble_eq_true rfl) ?_
  refine g_istore_n dJ5_append_cf1ce_13 rfl (by decide) ?_
  refine g_lv (l := [(0, .ref b), (1, .ref (s_big + i)), (2, .int (nI (s_len.getD i 0)))]) ?_ ⟨by rfl, by rfl, by rfl, trivial⟩
  refine g_aload_n dJ5_append_cf1ce_14 rfl (by rfl) ?_
  refine g_aload_n dJ5_append_cf1ce_15 rfl (by rfl) ?_
  refine g_getf dJ5_append_cf1ce_16 fJ5_79 (by exact ho) (by omega) (by rfl) ?_
  refine g_iload_n dJ5_append_cf1ce_19 rfl (by rfl) ?_
  refine g_iadd dJ5_append_cf1ce_20 ?_
  rw [nI_add']
  refine g_callUg (rest := []) (c_b_ens1 hsb hb hv hbv hcl hn hf hx) dJ5_append_cf1ce_21 mJ5_ensureCapacityInternal_d00df rfl lJ5_100 nJ5_ensureCapacityInternal_d00df iJ5_ensureCapacityInternal_d00df qJ5_ensureCapacityInternal_d00df (by decide) (by omega) (by exact ho) rfl rfl (Nat.le_of_ble_eq_true rfl) (by omega) (by omega) (fun E h' n' z => by cases z.1) (s_lvs_vo (l := [(0, .ref b), (1, .ref (s_big + i)), (2, .int (nI (s_len.getD i 0)))]) (List.forall_mem_cons.mpr ⟨(by first | exact s_vo_r (by omega) | exact Or.inl (by omega) | exact Or.inr (by omega)), List.forall_mem_cons.mpr ⟨(by first | exact s_vo_r (by omega) | exact Or.inl (by omega) | exact Or.inr (by omega)), List.forall_mem_cons.mpr ⟨trivial, fun _ z => nomatch z⟩⟩⟩)) (fun _ z => nomatch z) (fun w9 h9 n9 z9 _ => ?_)
  obtain ⟨z1, rfl, hsb, hcl, hlo⟩ := z9
  cases z1
  obtain ⟨ho, hw⟩ := hsb
  refine g_aload_n dJ5_append_cf1ce_24 rfl (by rfl) ?_
  refine g_aload_n dJ5_append_cf1ce_25 rfl (by rfl) ?_
  refine g_getf dJ5_append_cf1ce_26 fJ5_79 (by exact ho) (by omega) (by rfl) ?_
  refine g_aload_n dJ5_append_cf1ce_29 rfl (by rfl) ?_
  refine g_callUg (rest := []) (c_b_put hi ⟨ho, hw⟩ (by omega) (by omega) (by omega) (by omega)) dJ5_append_cf1ce_30 mJ5_putStringAt_47b60 rfl lJ5_208 nJ5_putStringAt_47b60 iJ5_putStringAt_47b60 qJ5_putStringAt_47b60 (by decide) (by omega) (by exact ho) rfl rfl (Nat.le_of_ble_eq_true rfl) (by omega) (by omega) (fun E h' n' z => by cases z.1) (s_lvs_vo (l := [(0, .ref b), (1, .ref (s_big + i)), (2, .int (nI (s_len.getD i 0)))]) (List.forall_mem_cons.mpr ⟨(by first | exact s_vo_r (by omega) | exact Or.inl (by omega) | exact Or.inr (by omega)), List.forall_mem_cons.mpr ⟨(by first | exact s_vo_r (by omega) | exact Or.inl (by omega) | exact Or.inr (by omega)), List.forall_mem_cons.mpr ⟨trivial, fun _ z => nomatch z⟩⟩⟩)) (fun _ z => nomatch z) (fun w9 h9 n9 z9 _ => ?_)
  obtain ⟨z1, e5, z3⟩ := z9
  subst z3
  cases z1
  have ho := s_up_off e5 (by omega) ho
  have hw := s_up_at e5
  have hcl := hcl.up e5 (Nat.le_refl _) trivial (fun j a c => by omega)
  have hlo := hlo.up e5 (by omega)
  refine g_aload_n dJ5_append_cf1ce_33 rfl (by rfl) ?_
  refine g_dup dJ5_append_cf1ce_34 (by rfl) ?_
  refine g_getf dJ5_append_cf1ce_35 fJ5_79 (by exact ho) (by omega) (by rfl) ?_
  refine g_iload_n dJ5_append_cf1ce_38 rfl (by rfl) ?_
  refine g_iadd dJ5_append_cf1ce_39 ?_
  rw [nI_add']
  refine g_putf' dJ5_append_cf1ce_40 pJ5_79 (by exact ho) (by omega) (by exact Nat.le_of_ble_eq_true rfl) (by rfl) (by rfl) (fun h2 e2 => ?_)
  have ho := s_up_at e2
  have hw := s_up_off e2 (by omega) hw
  have hcl := hcl.up e2 (Nat.le_refl _) (List.forall_mem_cons.mpr ⟨(by first | exact s_vo_r (by omega) | exact Or.inl (by omega) | exact Or.inr (by omega)), (List.forall_mem_cons.mpr ⟨trivial, (List.forall_mem_cons.mpr ⟨trivial, (List.forall_mem_cons.mpr ⟨trivial, (fun _ z => nomatch z)⟩)⟩)⟩)⟩) (fun j a c => by omega)
  have hlo := hlo.up e2 (Nat.le_refl _)
  refine g_aload_n dJ5_append_cf1ce_43 rfl (by rfl) ?_
  exact g_ret (some (.ref b)) ⟨dJ5_append_cf1ce_44, _, rfl, Or.inl ⟨_, rfl⟩⟩ ⟨rfl, rfl, ⟨ho, hw⟩, hcl, hlo⟩
theorem c_b_app {h : s_H} {n b v c i L : Nat} {f : Nat → Int32} (hi : i < 14) (hsb : s_sb h b v L f c) (hb : b < n) (hv : v < n) (hbv : b < v) (hcl : s_cl h n) (hn : n + 1 ≤ s_big) (hc : c + s_len.getD i 0 ≤ L) (hL : L < 1000) : s_Mt TJ4_append_15ec4 0 0 [.ref b, .ref (s_big + i)] h n (fun o h1 n1 => o = .inl (some (.ref b)) ∧ n1 = n ∧ s_sb h1 b v L (va_cpy (fun j => (s_byt.getD i []).getD j 0) f 0 c (s_len.getD i 0)) (c + s_len.getD i 0) ∧ s_cl h1 (n) ∧ s_lo h h1 b) := by
  refine s_Mt_of rfl (by decide) (by exact Nat.le_of_ble_eq_true rfl) ?_
  have hl := k_len i hi
  have hsb9 := hsb
  obtain ⟨ho, hw⟩ := hsb9
  refine g_aload_n dJ4_append_15ec4_0 rfl (by rfl) ?_
  refine g_aload_n dJ4_append_15ec4_1 rfl (by rfl) ?_
  refine g_callSUg (rest := []) (c_b_app5 hi hsb hb hv hbv hcl hn hc hL) dJ4_append_15ec4_2 mJ5_append_cf1ce rfl lJ4_29 nJ5_append_cf1ce wsup4 iJ5_append_cf1ce (by decide) (by decide) (by omega) (by exact ho) rfl rfl (Nat.le_of_ble_eq_true rfl) (by omega) (by omega) (fun E h' n' z => by cases z.1) (s_lvs_vo (l := [(0, .ref b), (1, .ref (s_big + i))]) (List.forall_mem_cons.mpr ⟨(by first | exact s_vo_r (by omega) | exact Or.inl (by omega) | exact Or.inr (by omega)), List.forall_mem_cons.mpr ⟨(by first | exact s_vo_r (by omega) | exact Or.inl (by omega) | exact Or.inr (by omega)), fun _ z => nomatch z⟩⟩)) (fun _ z => nomatch z) (fun w9 h9 n9 z9 _ => ?_)
  obtain ⟨z1, rfl, z2⟩ := z9
  cases z1
  refine g_pop dJ4_append_15ec4_5 (by rfl) ?_
  refine g_aload_n dJ4_append_15ec4_6 rfl (by rfl) ?_
  exact g_ret (some (.ref b)) ⟨dJ4_append_15ec4_7, _, rfl, Or.inl ⟨_, rfl⟩⟩ ⟨rfl, rfl, z2⟩
theorem c_b_appg {h : s_H} {n b v c i : Nat} {f : Nat → Int32} (hi : i < 14) (hsb : s_sb h b v 16 f c) (hb : b < n) (hv : v < n) (hbv : b < v) (hcl : s_cl h n) (hn : n + 1 ≤ s_big) (hf : ∀ j, j < 16 → fits .byte (.int (f j)) = true) (hx : nI (c + s_len.getD i 0) = 18 ∨ nI (c + s_len.getD i 0) = 19) (hc : c + s_len.getD i 0 ≤ 34) : s_Mt TJ4_append_15ec4 1 34 [.ref b, .ref (s_big + i)] h n (fun o h1 n1 => o = .inl (some (.ref b)) ∧ n1 = n + 1 ∧ s_sb h1 b n 34 (va_cpy (fun j => (s_byt.getD i []).getD j 0) (va_cpy f (fun _ => 0) 0 0 16) 0 c (s_len.getD i 0)) (c + s_len.getD i 0) ∧ s_cl h1 (n + 1) ∧ s_lo h h1 b) := by
  refine s_Mt_of rfl (by decide) (by exact Nat.le_of_ble_eq_true rfl) ?_
  have hl := k_len i hi
  have hsb9 := hsb
  obtain ⟨ho, hw⟩ := hsb9
  refine g_aload_n dJ4_append_15ec4_0 rfl (by rfl) ?_
  refine g_aload_n dJ4_append_15ec4_1 rfl (by rfl) ?_
  refine g_callSUg (rest := []) (c_b_app5g hi hsb hb hv hbv hcl hn hf hx hc) dJ4_append_15ec4_2 mJ5_append_cf1ce rfl lJ4_29 nJ5_append_cf1ce wsup4 iJ5_append_cf1ce (by decide) (by decide) (by omega) (by exact ho) rfl rfl (Nat.le_of_ble_eq_true rfl) (by omega) (by omega) (fun E h' n' z => by cases z.1) (s_lvs_vo (l := [(0, .ref b), (1, .ref (s_big + i))]) (List.forall_mem_cons.mpr ⟨(by first | exact s_vo_r (by omega) | exact Or.inl (by omega) | exact Or.inr (by omega)), List.forall_mem_cons.mpr ⟨(by first | exact s_vo_r (by omega) | exact Or.inl (by omega) | exact Or.inr (by omega)), fun _ z => nomatch z⟩⟩)) (fun _ z => nomatch z) (fun w9 h9 n9 z9 _ => ?_)
  obtain ⟨z1, rfl, z2⟩ := z9
  cases z1
  refine g_pop dJ4_append_15ec4_5 (by rfl) ?_
  refine g_aload_n dJ4_append_15ec4_6 rfl (by rfl) ?_
  exact g_ret (some (.ref b)) ⟨dJ4_append_15ec4_7, _, rfl, Or.inl ⟨_, rfl⟩⟩ ⟨rfl, rfl, z2⟩
/-- the digits of a number below 80, behind what is there -/
def x_dl (d : Nat) : Nat := if d < 10 then 1 else 2
def x_dg (f : Nat → Int32) (c d : Nat) : Nat → Int32 := if d < 10 then upd f c (nI (48 + d)) else upd (upd f (c + 1) (nI (48 + d % 10))) c (nI (48 + d / 10))
theorem x_dl_le (d : Nat) : x_dl d ≤ 2 := by
  unfold x_dl
  split <;> omega
theorem c_b_size {h : s_H} {n d : Nat} (hd : d < 80) : s_Mt TJ6_stringSize_0f7a4 0 0 [.int (nI d)] h n (s_re (some (.int (nI (x_dl d)))) h n) := by
  refine s_Mt_of rfl (by decide) (by exact Nat.le_of_ble_eq_true rfl) ?_
  obtain ⟨-, k2, -, -⟩ := k_neg d hd
  refine g_iconst 1 dJ6_stringSize_0f7a4_0 (by rfl) ?_
  refine g_istore_n dJ6_stringSize_0f7a4_1 rfl (by decide) ?_
  refine g_iload_n dJ6_stringSize_0f7a4_2 rfl (by rfl) ?_
  refine g_if_lt (tgt := 11) dJ6_stringSize_0f7a4_3 (by decide) (fun c_3 => absurd c_3 k2) (fun _ => ?_)
  refine g_iconst 0 dJ6_stringSize_0f7a4_6 (by rfl) ?_
  refine g_istore_n dJ6_stringSize_0f7a4_7 rfl (by decide) ?_
  refine g_iload_n dJ6_stringSize_0f7a4_8 rfl (by rfl) ?_
  refine g_ineg dJ6_stringSize_0f7a4_9 ?_
  refine g_istore_n dJ6_stringSize_0f7a4_10 rfl (by decide) ?_
  refine g_bipush (-10) dJ6_stringSize_0f7a4_11 (by rfl) ?_
  refine g_istore_n dJ6_stringSize_0f7a4_13 rfl (by decide) ?_
  refine g_iconst 1 dJ6_stringSize_0f7a4_14 (by rfl) ?_
  refine g_istore_n dJ6_stringSize_0f7a4_15 rfl (by decide) ?_
  refine g_lv (l := [(0, .int (-(nI d))), (1, .int 0), (2, .int (-10)), (3, .int 1)]) ?_ ⟨by rfl, by rfl, by rfl, by rfl, trivial⟩
  by_cases hd9 : d < 10
  · obtain ⟨k1, -, -⟩ := k_neg1 d hd9
    refine g_iload_n dJ6_stringSize_0f7a4_16 rfl (by rfl) ?_
    refine g_bipush 10 dJ6_stringSize_0f7a4_17 (by rfl) ?_
    refine g_icmp_ge (tgt := 42) dJ6_stringSize_0f7a4_19 (by decide) (fun c_19 => absurd c_19 (by decide)) (fun _ => ?_)
    refine g_iload_n dJ6_stringSize_0f7a4_22 rfl (by rfl) ?_
    refine g_iload_n dJ6_stringSize_0f7a4_23 rfl (by rfl) ?_
    refine g_icmp_le (tgt := 31) dJ6_stringSize_0f7a4_24 (by decide) (fun c_24 => absurd c_24 k1) (fun _ => ?_)
    refine g_iload_n dJ6_stringSize_0f7a4_27 rfl (by rfl) ?_
    refine g_iload_n dJ6_stringSize_0f7a4_28 rfl (by rfl) ?_
    refine g_iadd dJ6_stringSize_0f7a4_29 ?_
    refine g_ireturn dJ6_stringSize_0f7a4_30 rfl ?_
    exact ⟨by rw [x_dl, if_pos hd9]; rfl, rfl, rfl⟩
  · obtain ⟨k3, k4, -, -, -⟩ := k_neg2 d hd (Nat.le_of_not_lt hd9)
    refine g_iload_n dJ6_stringSize_0f7a4_16 rfl (by rfl) ?_
    refine g_bipush 10 dJ6_stringSize_0f7a4_17 (by rfl) ?_
    refine g_icmp_ge (tgt := 42) dJ6_stringSize_0f7a4_19 (by decide) (fun c_19 => absurd c_19 (by decide)) (fun _ => ?_)
    refine g_iload_n dJ6_stringSize_0f7a4_22 rfl (by rfl) ?_
    refine g_iload_n dJ6_stringSize_0f7a4_23 rfl (by rfl) ?_
    refine g_icmp_le (tgt := 31) dJ6_stringSize_0f7a4_24 (by decide) (fun _ => ?_) (fun c_24 => absurd k3 c_24)
    refine g_bipush 10 dJ6_stringSize_0f7a4_31 (by rfl) ?_
    refine g_iload_n dJ6_stringSize_0f7a4_33 rfl (by rfl) ?_
    refine g_imul dJ6_stringSize_0f7a4_34 ?_
    refine g_istore_n dJ6_stringSize_0f7a4_35 rfl (by decide) ?_
    refine g_iinc _ dJ6_stringSize_0f7a4_36 (by rfl) rfl ?_
    refine g_goto (tgt := 16) dJ6_stringSize_0f7a4_39 (by decide) ?_
    refine g_lv (l := [(0, .int (-(nI d))), (1, .int 0), (2, .int (-100)), (3, .int 2)]) ?_ ⟨by rfl, by rfl, by rfl, by rfl, trivial⟩
    refine g_iload_n dJ6_stringSize_0f7a4_16 rfl (by rfl) ?_
    refine g_bipush 10 dJ6_stringSize_0f7a4_17 (by rfl) ?_
    refine g_icmp_ge (tgt := 42) dJ6_stringSize_0f7a4_19 (by decide) (fun c_19 => absurd c_19 (by decide)) (fun _ => ?_)
    refine g_iload_n dJ6_stringSize_0f7a4_22 rfl (by rfl) ?_
    refine g_iload_n dJ6_stringSize_0f7a4_23 rfl (by rfl) ?_
    refine g_icmp_le (tgt := 31) dJ6_stringSize_0f7a4_24 (by decide) (fun c_24 => absurd c_24 k4) (fun _ => ?_)
    refine g_iload_n dJ6_stringSize_0f7a4_27 rfl (by rfl) ?_
    refine g_iload_n dJ6_stringSize_0f7a4_28 rfl (by rfl) ?_
    refine g_iadd dJ6_stringSize_0f7a4_29 ?_
    refine g_ireturn dJ6_stringSize_0f7a4_30 rfl ?_
    exact ⟨by rw [x_dl, if_neg hd9]; rfl, rfl, rfl⟩
theorem c_b_chars1 {h : s_H} {n v L c d : Nat} {f : Nat → Int32} (hd : d < 10) (hw : h v = .inl (2, L, .inl f)) (hv : v < n) (hc : c + 1 ≤ L) (hL : L < 1000) : s_Mt TJ6_getChars_ba4f3 0 0 [.int (nI d), .int (nI (c + 1)), .ref v] h n (fun o h1 n1 => (∃ x, o = .inl (some (.int x))) ∧ n1 = n ∧ h1 = s_up h v (.inl (2, L, .inl (x_dg f c d)))) := by
  refine s_Mt_of rfl (by decide) (by exact Nat.le_of_ble_eq_true rfl) ?_
  obtain ⟨kk, -, k0, k100⟩ := k_neg d (by omega)
  obtain ⟨-, k9, kv⟩ := k_neg1 d hd
  refine g_iload_n dJ6_getChars_ba4f3_0 rfl (by rfl) ?_
  refine g_istore dJ6_getChars_ba4f3_1 (by decide) ?_
  refine g_iload_n dJ6_getChars_ba4f3_3 rfl (by rfl) ?_
  refine g_if_ge (tgt := 11) dJ6_getChars_ba4f3_4 (by decide) (fun _ => ?_) (fun c_4 => absurd k0 c_4)
  refine g_iconst 0 dJ6_getChars_ba4f3_11 (by rfl) ?_
  refine g_istore dJ6_getChars_ba4f3_12 (by decide) ?_
  refine g_iload dJ6_getChars_ba4f3_14 (by rfl) ?_
  refine g_if_ne (tgt := 22) dJ6_getChars_ba4f3_16 (by decide) (fun c_16 => absurd (by decide) c_16) (fun _ => ?_)
  refine g_iload_n dJ6_getChars_ba4f3_19 rfl (by rfl) ?_
  refine g_ineg dJ6_getChars_ba4f3_20 ?_
  refine g_istore_n dJ6_getChars_ba4f3_21 rfl (by decide) ?_
  refine g_iload_n dJ6_getChars_ba4f3_22 rfl (by rfl) ?_
  refine g_bipush (-100) dJ6_getChars_ba4f3_23 (by rfl) ?_
  refine g_icmp_gt (tgt := 72) dJ6_getChars_ba4f3_25 (by decide) (fun _ => ?_) (fun c_25 => absurd k100 c_25)
  refine g_aload_n dJ6_getChars_ba4f3_72 rfl (by rfl) ?_
  refine g_iinc (nI c) dJ6_getChars_ba4f3_73 (by rfl) (nI_dec _) ?_
  refine g_iload dJ6_getChars_ba4f3_76 (by rfl) ?_
  refine g_kdo rfl dJ6_getChars_ba4f3_78 ?_
  refine g_iload_n dJ6_getChars_ba4f3_81 rfl (by rfl) ?_
  refine g_ineg dJ6_getChars_ba4f3_82 ?_
  rw [kk]
  refine g_kdob (j := d) (by omega) rfl dJ6_getChars_ba4f3_83 ?_
  refine g_bast' dJ6_getChars_ba4f3_84 (by exact hw) (by omega) rfl (by omega) (by omega) (fun h1 e1 => ?_)
  have hw := s_up_at e1
  refine g_iload_n dJ6_getChars_ba4f3_85 rfl (by rfl) ?_
  refine g_bipush (-9) dJ6_getChars_ba4f3_86 (by rfl) ?_
  refine g_icmp_ge (tgt := 104) dJ6_getChars_ba4f3_88 (by decide) (fun _ => ?_) (fun c_88 => absurd k9 c_88)
  refine g_iload dJ6_getChars_ba4f3_104 (by rfl) ?_
  refine g_if_eq (tgt := 118) dJ6_getChars_ba4f3_106 (by decide) (fun _ => ?_) (fun c_106 => absurd rfl c_106)
  refine g_iload dJ6_getChars_ba4f3_118 (by rfl) ?_
  refine g_ireturn dJ6_getChars_ba4f3_120 rfl ?_
  exact ⟨⟨_, rfl⟩, rfl, by rw [e1, kv, x_dg, if_pos hd]⟩
theorem c_b_chars2 {h : s_H} {n v L c d : Nat} {f : Nat → Int32} (hd : d < 80) (hd1 : 10 ≤ d) (hw : h v = .inl (2, L, .inl f)) (hv : v < n) (hc : c + 2 ≤ L) (hL : L < 1000) : s_Mt TJ6_getChars_ba4f3 0 0 [.int (nI d), .int (nI (c + 2)), .ref v] h n (fun o h1 n1 => (∃ x, o = .inl (some (.int x))) ∧ n1 = n ∧ h1 = s_up h v (.inl (2, L, .inl (x_dg f c d)))) := by
  refine s_Mt_of rfl (by decide) (by exact Nat.le_of_ble_eq_true rfl) ?_
  obtain ⟨kk, -, k0, k100⟩ := k_neg d (by omega)
  obtain ⟨-, -, k9, kv, kw⟩ := k_neg2 d hd hd1
  refine g_iload_n dJ6_getChars_ba4f3_0 rfl (by rfl) ?_
  refine g_istore dJ6_getChars_ba4f3_1 (by decide) ?_
  refine g_iload_n dJ6_getChars_ba4f3_3 rfl (by rfl) ?_
  refine g_if_ge (tgt := 11) dJ6_getChars_ba4f3_4 (by decide) (fun _ => ?_) (fun c_4 => absurd k0 c_4)
  refine g_iconst 0 dJ6_getChars_ba4f3_11 (by rfl) ?_
  refine g_istore dJ6_getChars_ba4f3_12 (by decide) ?_
  refine g_iload dJ6_getChars_ba4f3_14 (by rfl) ?_
  refine g_if_ne (tgt := 22) dJ6_getChars_ba4f3_16 (by decide) (fun c_16 => absurd (by decide) c_16) (fun _ => ?_)
  refine g_iload_n dJ6_getChars_ba4f3_19 rfl (by rfl) ?_
  refine g_ineg dJ6_getChars_ba4f3_20 ?_
  refine g_istore_n dJ6_getChars_ba4f3_21 rfl (by decide) ?_
  refine g_iload_n dJ6_getChars_ba4f3_22 rfl (by rfl) ?_
  refine g_bipush (-100) dJ6_getChars_ba4f3_23 (by rfl) ?_
  refine g_icmp_gt (tgt := 72) dJ6_getChars_ba4f3_25 (by decide) (fun _ => ?_) (fun c_25 => absurd k100 c_25)
  refine g_aload_n dJ6_getChars_ba4f3_72 rfl (by rfl) ?_
  refine g_iinc (nI (c + 1)) dJ6_getChars_ba4f3_73 (by rfl) (nI_dec _) ?_
  refine g_iload dJ6_getChars_ba4f3_76 (by rfl) ?_
  refine g_kdo rfl dJ6_getChars_ba4f3_78 ?_
  refine g_iload_n dJ6_getChars_ba4f3_81 rfl (by rfl) ?_
  refine g_ineg dJ6_getChars_ba4f3_82 ?_
  rw [kk]
  refine g_kdob (j := d) (by omega) rfl dJ6_getChars_ba4f3_83 ?_
  refine g_bast' dJ6_getChars_ba4f3_84 (by exact hw) (by omega) rfl (by omega) (by omega) (fun h1 e1 => ?_)
  have hw := s_up_at e1
  refine g_iload_n dJ6_getChars_ba4f3_85 rfl (by rfl) ?_
  refine g_bipush (-9) dJ6_getChars_ba4f3_86 (by rfl) ?_
  refine g_icmp_ge (tgt := 104) dJ6_getChars_ba4f3_88 (by decide) (fun c_88 => absurd c_88 k9) (fun _ => ?_)
  refine g_aload_n dJ6_getChars_ba4f3_91 rfl (by rfl) ?_
  refine g_iinc (nI c) dJ6_getChars_ba4f3_92 (by rfl) (nI_dec _) ?_
  refine g_iload dJ6_getChars_ba4f3_95 (by rfl) ?_
  refine g_kdt rfl dJ6_getChars_ba4f3_97 ?_
  refine g_iload_n dJ6_getChars_ba4f3_100 rfl (by rfl) ?_
  refine g_ineg dJ6_getChars_ba4f3_101 ?_
  rw [kk]
  refine g_kdtb (j := d) (by omega) rfl dJ6_getChars_ba4f3_102 ?_
  refine g_bast' dJ6_getChars_ba4f3_103 (by exact hw) (by omega) rfl (by omega) (by omega) (fun h2 e2 => ?_)
  refine g_iload dJ6_getChars_ba4f3_104 (by rfl) ?_
  refine g_if_eq (tgt := 118) dJ6_getChars_ba4f3_106 (by decide) (fun _ => ?_) (fun c_106 => absurd rfl c_106)
  refine g_iload dJ6_getChars_ba4f3_118 (by rfl) ?_
  refine g_ireturn dJ6_getChars_ba4f3_120 rfl ?_
  refine ⟨⟨_, rfl⟩, rfl, ?_⟩
  rw [e2, e1, kv, kw, x_dg, if_neg (by omega)]
  funext j
  by_cases hj : j = v
  · rw [hj, s_up_same, s_up_same]
  · rw [s_up_ne _ _ hj, s_up_ne _ _ hj, s_up_ne _ _ hj]
theorem c_b_chars {h : s_H} {n v L c d : Nat} {f : Nat → Int32} (hd : d < 80) (hw : h v = .inl (2, L, .inl f)) (hv : v < n) (hc : c + x_dl d ≤ L) (hL : L < 1000) : s_Mt TJ6_getChars_ba4f3 0 0 [.int (nI d), .int (nI (c + x_dl d)), .ref v] h n (fun o h1 n1 => (∃ x, o = .inl (some (.int x))) ∧ n1 = n ∧ h1 = s_up h v (.inl (2, L, .inl (x_dg f c d)))) := by
  by_cases h9 : d < 10
  · rw [x_dl, if_pos h9] at hc ⊢
    exact c_b_chars1 h9 hw hv hc hL
  · rw [x_dl, if_neg h9] at hc ⊢
    exact c_b_chars2 hd (Nat.le_of_not_lt h9) hw hv hc hL
theorem c_b_appi5 {h : s_H} {n b v c d L : Nat} {f : Nat → Int32} (hd : d < 80) (hsb : s_sb h b v L f c) (hb : b < n) (hv : v < n) (hbv : b < v) (hcl : s_cl h n) (hn : n ≤ s_big) (hc : c + 2 ≤ L) (hL : L < 1000) : s_Mt TJ5_append_c97b9 0 0 [.ref b, .int (nI d)] h n (fun o h1 n1 => o = .inl (some (.ref b)) ∧ n1 = n ∧ s_sb h1 b v L (x_dg f c d) (c + x_dl d) ∧ s_cl h1 n ∧ s_lo h h1 b) := by
  refine s_Mt_of rfl (by decide) (by exact Nat.le_of_ble_eq_true rfl) ?_
  have hl := x_dl_le d
  have hsb9 := hsb
  obtain ⟨ho, hw⟩ := hsb9
  refine g_aload_n dJ5_append_c97b9_0 rfl (by rfl) ?_
  refine g_getf dJ5_append_c97b9_1 fJ5_79 (by exact ho) (by omega) (by rfl) ?_
  refine g_istore_n dJ5_append_c97b9_4 rfl (by decide) ?_
  refine g_lv (l := [(0, .ref b), (1, .int (nI d)), (2, .int (nI c))]) ?_ ⟨by rfl, by rfl, by rfl, trivial⟩
  refine g_iload_n dJ5_append_c97b9_5 rfl (by rfl) ?_
  refine g_iload_n dJ5_append_c97b9_6 rfl (by rfl) ?_
  refine g_callSg (rest := [.int (nI c)]) (c_b_size hd) dJ5_append_c97b9_7 mJ6_stringSize_0f7a4 rfl lJ5_245 sJ6_stringSize_0f7a4 (by decide) rfl rfl (Nat.le_of_ble_eq_true rfl) (by omega) (by omega) (fun E h' n' z => by cases z.1) (s_lvs_vo (l := [(0, .ref b), (1, .int (nI d)), (2, .int (nI c))]) (List.forall_mem_cons.mpr ⟨(by first | exact s_vo_r (by omega) | exact Or.inl (by omega) | exact Or.inr (by omega)), List.forall_mem_cons.mpr ⟨trivial, List.forall_mem_cons.mpr ⟨trivial, fun _ z => nomatch z⟩⟩⟩)) (List.forall_mem_cons.mpr ⟨trivial, (fun _ z => nomatch z)⟩) (fun w9 h9 n9 z9 _ => ?_)
  obtain ⟨z1, z2, z3⟩ := z9
  obtain rfl := z2.symm
  obtain rfl := z3.symm
  cases z1
  refine g_iadd dJ5_append_c97b9_10 ?_
  rw [nI_add']
  refine g_istore_n dJ5_append_c97b9_11 rfl (by decide) ?_
  refine g_lv (l := [(0, .ref b), (1, .int (nI d)), (2, .int (nI c)), (3, .int (nI (c + x_dl d)))]) ?_ ⟨by rfl, by rfl, by rfl, by rfl, trivial⟩
  refine g_aload_n dJ5_append_c97b9_12 rfl (by rfl) ?_
  refine g_iload_n dJ5_append_c97b9_13 rfl (by rfl) ?_
  refine g_callUg (rest := []) (c_b_ens0 hsb hb hv (by omega) hL) dJ5_append_c97b9_14 mJ5_ensureCapacityInternal_d00df rfl lJ5_100 nJ5_ensureCapacityInternal_d00df iJ5_ensureCapacityInternal_d00df qJ5_ensureCapacityInternal_d00df (by decide) (by omega) (by exact ho) rfl rfl (Nat.le_of_ble_eq_true rfl) (by omega) (by omega) (fun E h' n' z => by cases z.1) (s_lvs_vo (l := [(0, .ref b), (1, .int (nI d)), (2, .int (nI c)), (3, .int (nI (c + x_dl d)))]) (List.forall_mem_cons.mpr ⟨(by first | exact s_vo_r (by omega) | exact Or.inl (by omega) | exact Or.inr (by omega)), List.forall_mem_cons.mpr ⟨trivial, List.forall_mem_cons.mpr ⟨trivial, List.forall_mem_cons.mpr ⟨trivial, fun _ z => nomatch z⟩⟩⟩⟩)) (fun _ z => nomatch z) (fun w9 h9 n9 z9 _ => ?_)
  obtain ⟨z1, z2, z3⟩ := z9
  obtain rfl := z2.symm
  obtain rfl := z3.symm
  cases z1
  refine g_aload_n dJ5_append_c97b9_17 rfl (by rfl) ?_
  refine g_callUg (rest := []) (c_b_latin ho hb) dJ5_append_c97b9_18 mJ5_isLatin1_aae02 rfl lJ5_83 nJ5_isLatin1_aae02 iJ5_isLatin1_aae02 qJ5_isLatin1_aae02 (by decide) (by omega) (by exact ho) rfl rfl (Nat.le_of_ble_eq_true rfl) (by omega) (by omega) (fun E h' n' z => by cases z.1) (s_lvs_vo (l := [(0, .ref b), (1, .int (nI d)), (2, .int (nI c)), (3, .int (nI (c + x_dl d)))]) (List.forall_mem_cons.mpr ⟨(by first | exact s_vo_r (by omega) | exact Or.inl (by omega) | exact Or.inr (by omega)), List.forall_mem_cons.mpr ⟨trivial, List.forall_mem_cons.mpr ⟨trivial, List.forall_mem_cons.mpr ⟨trivial, fun _ z => nomatch z⟩⟩⟩⟩)) (fun _ z => nomatch z) (fun w9 h9 n9 z9 _ => ?_)
  obtain ⟨z1, z2, z3⟩ := z9
  obtain rfl := z2.symm
  obtain rfl := z3.symm
  cases z1
  refine g_if_eq (tgt := 37) dJ5_append_c97b9_21 (by decide) (fun c_21 => absurd c_21 (by decide)) (fun _ => ?_)
  refine g_iload_n dJ5_append_c97b9_24 rfl (by rfl) ?_
  refine g_iload_n dJ5_append_c97b9_25 rfl (by rfl) ?_
  refine g_aload_n dJ5_append_c97b9_26 rfl (by rfl) ?_
  refine g_getf dJ5_append_c97b9_27 fJ5_15 (by exact ho) (by omega) (by rfl) ?_
  refine g_callSg (rest := []) (c_b_chars hd hw hv (by omega) hL) dJ5_append_c97b9_30 mJ6_getChars_ba4f3 rfl lJ5_248 sJ6_getChars_ba4f3 (by decide) rfl rfl (Nat.le_of_ble_eq_true rfl) (by omega) (by omega) (fun E h' n' z => by obtain ⟨⟨_, w⟩, _⟩ := z; cases w) (s_lvs_vo (l := [(0, .ref b), (1, .int (nI d)), (2, .int (nI c)), (3, .int (nI (c + x_dl d)))]) (List.forall_mem_cons.mpr ⟨(by first | exact s_vo_r (by omega) | exact Or.inl (by omega) | exact Or.inr (by omega)), List.forall_mem_cons.mpr ⟨trivial, List.forall_mem_cons.mpr ⟨trivial, List.forall_mem_cons.mpr ⟨trivial, fun _ z => nomatch z⟩⟩⟩⟩)) (fun _ z => nomatch z) (fun w9 h9 n9 z9 _ => ?_)
  obtain ⟨⟨x9, z1⟩, z3, e5⟩ := z9
  obtain rfl := z3.symm
  cases z1
  have ho := s_up_off e5 (by omega) ho
  have hw := s_up_at e5
  have hcl := hcl.up e5 (Nat.le_refl _) trivial (fun j a c => by omega)
  have hlo := (s_lo.rf (d := b)).up e5 (by omega)
  refine g_pop dJ5_append_c97b9_33 (by rfl) ?_
  refine g_goto (tgt := 48) dJ5_append_c97b9_34 (by decide) ?_
  refine g_aload_n dJ5_append_c97b9_48 rfl (by rfl) ?_
  refine g_iload_n dJ5_append_c97b9_49 rfl (by rfl) ?_
  refine g_putf' dJ5_append_c97b9_50 pJ5_79 (by exact ho) (by omega) (by exact Nat.le_of_ble_eq_true rfl) (by rfl) (by rfl) (fun h2 e2 => ?_)
  have ho := s_up_at e2
  have hw := s_up_off e2 (by omega) hw
  have hcl := hcl.up e2 (Nat.le_refl _) (List.forall_mem_cons.mpr ⟨(by first | exact s_vo_r (by omega) | exact Or.inl (by omega) | exact Or.inr (by omega)), (List.forall_mem_cons.mpr ⟨trivial, (List.forall_mem_cons.mpr ⟨trivial, (List.forall_mem_cons.mpr ⟨trivial, (fun _ z => nomatch z)⟩)⟩)⟩)⟩) (fun j a c => by omega)
  have hlo := hlo.up e2 (Nat.le_refl _)
  refine g_aload_n dJ5_append_c97b9_53 rfl (by rfl) ?_
  exact g_ret (some (.ref b)) ⟨dJ5_append_c97b9_54, _, rfl, Or.inl ⟨_, rfl⟩⟩ ⟨rfl, rfl, ⟨ho, hw⟩, hcl, hlo⟩
theorem c_b_appi {h : s_H} {n b v c d L : Nat} {f : Nat → Int32} (hd : d < 80) (hsb : s_sb h b v L f c) (hb : b < n) (hv : v < n) (hbv : b < v) (hcl : s_cl h n) (hn : n ≤ s_big) (hc : c + 2 ≤ L) (hL : L < 1000) : s_Mt TJ4_append_bf812 0 0 [.ref b, .int (nI d)] h n (fun o h1 n1 => o = .inl (some (.ref b)) ∧ n1 = n ∧ s_sb h1 b v L (x_dg f c d) (c + x_dl d) ∧ s_cl h1 n ∧ s_lo h h1 b) := by
  refine s_Mt_of rfl (by decide) (by exact Nat.le_of_ble_eq_true rfl) ?_
  have hl := x_dl_le d
  have hsb9 := hsb
  obtain ⟨ho, hw⟩ := hsb9
  refine g_aload_n dJ4_append_bf812_0 rfl (by rfl) ?_
  refine g_iload_n dJ4_append_bf812_1 rfl (by rfl) ?_
  refine g_callSUg (rest := []) (c_b_appi5 hd hsb hb hv hbv hcl hn hc hL) dJ4_append_bf812_2 mJ5_append_c97b9 rfl lJ4_53 nJ5_append_c97b9 wsup4 iJ5_append_c97b9 (by decide) (by decide) (by omega) (by exact ho) rfl rfl (Nat.le_of_ble_eq_true rfl) (by omega) (by omega) (fun E h' n' z => by cases z.1) (s_lvs_vo (l := [(0, .ref b), (1, .int (nI d))]) (List.forall_mem_cons.mpr ⟨(by first | exact s_vo_r (by omega) | exact Or.inl (by omega) | exact Or.inr (by omega)), List.forall_mem_cons.mpr ⟨trivial, fun _ z => nomatch z⟩⟩)) (fun _ z => nomatch z) (fun w9 h9 n9 z9 _ => ?_)
  obtain ⟨z1, rfl, z2⟩ := z9
  cases z1
  refine g_pop dJ4_append_bf812_5 (by rfl) ?_
  refine g_aload_n dJ4_append_bf812_6 rfl (by rfl) ?_
  exact g_ret (some (.ref b)) ⟨dJ4_append_bf812_7, _, rfl, Or.inl ⟨_, rfl⟩⟩ ⟨rfl, rfl, z2⟩
theorem nI_0le {c : Nat} (h : c < 2147483648) : (0 : Int32) ≤ nI c := by
  rw [Int32.le_iff_toInt_le, nI_ti h]
  exact Int.natCast_nonneg c
theorem nI_s0 (c : Nat) : nI c - 0 = nI c := by
  apply Int32.toBitVec_inj.mp
  rw [Int32.toBitVec_sub]
  exact BitVec.sub_zero _
theorem c_b_chk {h : s_H} {n c : Nat} (hc : c < 1000) : s_Mt TJ7_checkLength_df160 0 0 [.int 0, .int (nI c)] h n (s_re none h n) := by
  refine s_Mt_of rfl (by decide) (by exact Nat.le_of_ble_eq_true rfl) ?_
  refine g_iload_n dJ7_checkLength_df160_0 rfl (by rfl) ?_
  refine g_iload_n dJ7_checkLength_df160_1 rfl (by rfl) ?_
  refine g_icmp_ge (tgt := 37) dJ7_checkLength_df160_2 (by decide) (fun _ => ?_) (fun c_2 => absurd (nI_0le (by omega)) c_2)
  refine g_vreturn dJ7_checkLength_df160_37 rfl ?_
  exact ⟨rfl, rfl, rfl⟩
theorem c_b_crb {h : s_H} {n a c : Nat} {f : Nat → Int32} (hw : h a = .inl (2, 34, .inl f)) (ha : a < n) (hcl : s_cl h n) (hn : n + 1 ≤ s_big) (hc : c < 34) (hf : ∀ i, i < c → fits .byte (.int (f i)) = true) : s_Mt TJ7_copyOfRangeByte_39247 1 34 [.ref a, .int 0, .int (nI c)] h n (fun o h1 n1 => o = .inl (some (.ref n)) ∧ n1 = n + 1 ∧ h1 n = .inl (2, c, .inl (va_cpy f (fun _ => 0) 0 0 c)) ∧ s_cl h1 (n + 1) ∧ s_lo h h1 n) := by
  refine s_Mt_of rfl (by decide) (by exact Nat.le_of_ble_eq_true rfl) ?_
  refine g_iload_n dJ7_copyOfRangeByte_39247_0 rfl (by rfl) ?_
  refine g_iload_n dJ7_copyOfRangeByte_39247_1 rfl (by rfl) ?_
  refine g_callSg (rest := []) (c_b_chk (by omega)) dJ7_copyOfRangeByte_39247_2 mJ7_checkLength_df160 rfl lJ7_343 sJ7_checkLength_df160 (by decide) rfl rfl (Nat.le_of_ble_eq_true rfl) (by omega) (by omega) (fun E h' n' z => by cases z.1) (s_lvs_vo (l := [(0, .ref a), (1, .int 0), (2, .int (nI c))]) (List.forall_mem_cons.mpr ⟨(by first | exact s_vo_r (by omega) | exact Or.inl (by omega) | exact Or.inr (by omega)), List.forall_mem_cons.mpr ⟨trivial, List.forall_mem_cons.mpr ⟨trivial, fun _ z => nomatch z⟩⟩⟩)) (fun _ z => nomatch z) (fun w9 h9 n9 z9 _ => ?_)
  obtain ⟨z1, z2, z3⟩ := z9
  obtain rfl := z2.symm
  obtain rfl := z3.symm
  cases z1
  refine g_iload_n dJ7_copyOfRangeByte_39247_5 rfl (by rfl) ?_
  refine g_iload_n dJ7_copyOfRangeByte_39247_6 rfl (by rfl) ?_
  refine g_isub dJ7_copyOfRangeByte_39247_7 ?_
  rw [nI_s0]
  refine g_istore_n dJ7_copyOfRangeByte_39247_8 rfl (by decide) ?_
  refine g_lv (l := [(0, .ref a), (1, .int 0), (2, .int (nI c)), (3, .int (nI c))]) ?_ ⟨by rfl, by rfl, by rfl, by rfl, trivial⟩
  refine g_iload_n dJ7_copyOfRangeByte_39247_9 rfl (by rfl) ?_
  refine g_newaB (N' := c) dJ7_copyOfRangeByte_39247_10 wa_B rfl (by omega) (by omega) hcl (s_lvs_vo (l := [(0, .ref a), (1, .int 0), (2, .int (nI c)), (3, .int (nI c))]) (List.forall_mem_cons.mpr ⟨(by first | exact s_vo_r (by omega) | exact Or.inl (by omega) | exact Or.inr (by omega)), List.forall_mem_cons.mpr ⟨trivial, List.forall_mem_cons.mpr ⟨trivial, List.forall_mem_cons.mpr ⟨trivial, fun _ z => nomatch z⟩⟩⟩⟩)) (fun _ z => nomatch z) (by omega) (by omega) (fun h1 e1 hcl => ?_)
  have hw := s_up_off e1 (by omega) hw
  have hx := s_up_at e1
  have hlo := (s_lo.rf (d := n)).up e1 (Nat.le_refl _)
  refine g_astore dJ7_copyOfRangeByte_39247_12 (by decide) ?_
  refine g_lv (l := [(0, .ref a), (1, .int 0), (2, .int (nI c)), (3, .int (nI c)), (4, .ref n)]) ?_ ⟨by rfl, by rfl, by rfl, by rfl, by rfl, trivial⟩
  refine g_aload_n dJ7_copyOfRangeByte_39247_14 rfl (by rfl) ?_
  refine g_iload_n dJ7_copyOfRangeByte_39247_15 rfl (by rfl) ?_
  refine g_aload dJ7_copyOfRangeByte_39247_16 (by rfl) ?_
  refine g_iconst 0 dJ7_copyOfRangeByte_39247_18 (by rfl) ?_
  refine g_aload_n dJ7_copyOfRangeByte_39247_19 rfl (by rfl) ?_
  refine g_balen dJ7_copyOfRangeByte_39247_20 (by exact hw) (by omega) ?_
  refine g_iload_n dJ7_copyOfRangeByte_39247_21 rfl (by rfl) ?_
  refine g_isub dJ7_copyOfRangeByte_39247_22 ?_
  rw [nI_s0]
  refine g_iload_n dJ7_copyOfRangeByte_39247_23 rfl (by rfl) ?_
  refine g_callSg (rest := [.int 0, .ref n, .int 0, .ref a]) (c_min _ _) dJ7_copyOfRangeByte_39247_24 mJ9_min_7cf53 rfl lJ7_304 sJ9_min_7cf53 (by decide) rfl rfl (Nat.le_of_ble_eq_true rfl) (by omega) (by omega) (fun E h' n' z => by cases z.1) (s_lvs_vo (l := [(0, .ref a), (1, .int 0), (2, .int (nI c)), (3, .int (nI c)), (4, .ref n)]) (List.forall_mem_cons.mpr ⟨(by first | exact s_vo_r (by omega) | exact Or.inl (by omega) | exact Or.inr (by omega)), List.forall_mem_cons.mpr ⟨trivial, List.forall_mem_cons.mpr ⟨trivial, List.forall_mem_cons.mpr ⟨trivial, List.forall_mem_cons.mpr ⟨(by first | exact s_vo_r (by omega) | exact Or.inl (by omega) | exact Or.inr (by omega)), fun _ z => nomatch z⟩⟩⟩⟩⟩)) (List.forall_mem_cons.mpr ⟨trivial, (List.forall_mem_cons.mpr ⟨(by first | exact s_vo_r (by omega) | exact Or.inl (by omega) | exact Or.inr (by omega)), (List.forall_mem_cons.mpr ⟨trivial, (List.forall_mem_cons.mpr ⟨(by first | exact s_vo_r (by omega) | exact Or.inl (by omega) | exact Or.inr (by omega)), (fun _ z => nomatch z)⟩)⟩)⟩)⟩) (fun w9 h9 n9 z9 _ => ?_)
  obtain ⟨z1, z2, z3⟩ := z9
  obtain rfl := z2.symm
  obtain rfl := z3.symm
  cases z1
  rw [if_pos (nI_lt hc (by omega))]
  refine g_copyb (sp := 0) (dp := 0) (m9 := c) dJ7_copyOfRangeByte_39247_27 cpJ7_150 (by exact hw) (by exact hx) (by omega) (by omega) rfl rfl rfl (by omega) (by omega) (by omega) (fun i hi => by rw [Nat.zero_add]; exact hf i hi) (Nat.le_of_ble_eq_true rfl) (fun h2 e2 => ?_)
  have hcl := hcl.up e2 (Nat.le_refl _) trivial (fun j a c => by omega)
  have hlo := hlo.up e2 (Nat.le_refl _)
  refine g_aload dJ7_copyOfRangeByte_39247_30 (by rfl) ?_
  exact g_ret (some (.ref n)) ⟨dJ7_copyOfRangeByte_39247_32, _, rfl, Or.inr ⟨_, rfl⟩⟩ ⟨rfl, rfl, s_up_at e2, hcl, hlo⟩
theorem c_b_cor {h : s_H} {n a c : Nat} {f : Nat → Int32} (hw : h a = .inl (2, 34, .inl f)) (ha : a < n) (hcl : s_cl h n) (hn : n + 1 ≤ s_big) (hc : c < 34) (hf : ∀ i, i < c → fits .byte (.int (f i)) = true) : s_Mt TJ7_copyOfRange_39247 1 34 [.ref a, .int 0, .int (nI c)] h n (fun o h1 n1 => o = .inl (some (.ref n)) ∧ n1 = n + 1 ∧ h1 n = .inl (2, c, .inl (va_cpy f (fun _ => 0) 0 0 c)) ∧ s_cl h1 (n + 1) ∧ s_lo h h1 n) := by
  refine s_Mt_of rfl (by decide) (by exact Nat.le_of_ble_eq_true rfl) ?_
  refine g_iload_n dJ7_copyOfRange_39247_0 rfl (by rfl) ?_
  refine g_if_ne (tgt := 10) dJ7_copyOfRange_39247_1 (by decide) (fun c_1 => absurd rfl c_1) (fun _ => ?_)
  refine g_iload_n dJ7_copyOfRange_39247_4 rfl (by rfl) ?_
  refine g_aload_n dJ7_copyOfRange_39247_5 rfl (by rfl) ?_
  refine g_balen dJ7_copyOfRange_39247_6 (by exact hw) (by omega) ?_
  refine g_icmp_eq (tgt := 17) dJ7_copyOfRange_39247_7 (by decide) (fun c_7 => absurd c_7 (fun z => by have := nI_inj (by omega) (by omega) z; omega)) (fun _ => ?_)
  refine g_aload_n dJ7_copyOfRange_39247_10 rfl (by rfl) ?_
  refine g_iload_n dJ7_copyOfRange_39247_11 rfl (by rfl) ?_
  refine g_iload_n dJ7_copyOfRange_39247_12 rfl (by rfl) ?_
  refine g_callSg (rest := []) (c_b_crb hw ha hcl hn hc hf) dJ7_copyOfRange_39247_13 mJ7_copyOfRangeByte_39247 rfl lJ7_339 sJ7_copyOfRangeByte_39247 (by decide) rfl rfl (Nat.le_of_ble_eq_true rfl) (by omega) (by omega) (fun E h' n' z => by cases z.1) (s_lvs_vo (l := [(0, .ref a), (1, .int 0), (2, .int (nI c))]) (List.forall_mem_cons.mpr ⟨(by first | exact s_vo_r (by omega) | exact Or.inl (by omega) | exact Or.inr (by omega)), List.forall_mem_cons.mpr ⟨trivial, List.forall_mem_cons.mpr ⟨trivial, fun _ z => nomatch z⟩⟩⟩)) (fun _ z => nomatch z) (fun w9 h9 n9 z9 _ => ?_)
  obtain ⟨z1, rfl, z2⟩ := z9
  cases z1
  exact g_ret (some (.ref n)) ⟨dJ7_copyOfRange_39247_16, _, rfl, Or.inr ⟨_, rfl⟩⟩ ⟨rfl, rfl, z2⟩
theorem c_s_init2 {h : s_H} {n b v c t : Nat} {f : Nat → Int32} (hsb : s_sb h b v 34 f c) (ht : h t = .inr (7, [.null, .int 0, .int 0, .int 0])) (hb : b < n) (hv : v < n) (htn : t < n) (hbt : b < t) (hvt : v < t) (hcl : s_cl h n) (hn : n + 1 ≤ s_big) (hc : c < 34) (hf : ∀ i, i < c → fits .byte (.int (f i)) = true) : s_Mt TJ0_init_db425 1 34 [.ref t, .ref b, .null] h n (fun o h1 n1 => o = .inl none ∧ n1 = n + 1 ∧ s_tx h1 t n c (va_cpy f (fun _ => 0) 0 0 c) ∧ s_cl h1 (n + 1) ∧ s_lo h h1 t) := by
  refine s_Mt_of rfl (by decide) (by exact Nat.le_of_ble_eq_true rfl) ?_
  obtain ⟨ho, hw⟩ := hsb
  refine g_aload_n dJ0_init_db425_0 rfl (by rfl) ?_
  refine g_objInit dJ0_init_db425_1 wl_J0 wi_obj wc_obj (Nat.le_of_ble_eq_true rfl) ?_
  refine g_aload_n dJ0_init_db425_4 rfl (by rfl) ?_
  refine g_callUg (rest := []) (c_b_value ho hb) dJ0_init_db425_5 mJ5_getValue_6d5f1 rfl lJ0_552 nJ5_getValue_6d5f1 iJ5_getValue_6d5f1 qJ5_getValue_6d5f1 (by decide) (by omega) (by exact ho) rfl rfl (Nat.le_of_ble_eq_true rfl) (by omega) (by omega) (fun E h' n' z => by cases z.1) (s_lvs_vo (l := [(0, .ref t), (1, .ref b), (2, .null)]) (List.forall_mem_cons.mpr ⟨(by first | exact s_vo_r (by omega) | exact Or.inl (by omega) | exact Or.inr (by omega)), List.forall_mem_cons.mpr ⟨(by first | exact s_vo_r (by omega) | exact Or.inl (by omega) | exact Or.inr (by omega)), List.forall_mem_cons.mpr ⟨trivial, fun _ z => nomatch z⟩⟩⟩)) (fun _ z => nomatch z) (fun w9 h9 n9 z9 _ => ?_)
  obtain ⟨z1, z2, z3⟩ := z9
  obtain rfl := z2.symm
  obtain rfl := z3.symm
  cases z1
  refine g_astore_n dJ0_init_db425_8 rfl (by decide) ?_
  refine g_lv (l := [(0, .ref t), (1, .ref b), (2, .null), (3, .ref v)]) ?_ ⟨by rfl, by rfl, by rfl, by rfl, trivial⟩
  refine g_aload_n dJ0_init_db425_9 rfl (by rfl) ?_
  refine g_callOg (rest := []) (c_b_len4 ho hb) yJ5_length_8abf5 dJ0_init_db425_10 mJ4_length_8abf5 rfl lJ0_549 nJ5_length_8abf5 iJ5_length_8abf5 mJ5_length_8abf5.1 ⟨by decide, by decide, by decide +kernel⟩ iJ4_length_8abf5 qJ5_length (by decide) (by omega) (by exact ho) rfl rfl (Nat.le_of_ble_eq_true rfl) (by omega) (by omega) (fun E h' n' z => by cases z.1) (s_lvs_vo (l := [(0, .ref t), (1, .ref b), (2, .null), (3, .ref v)]) (List.forall_mem_cons.mpr ⟨(by first | exact s_vo_r (by omega) | exact Or.inl (by omega) | exact Or.inr (by omega)), List.forall_mem_cons.mpr ⟨(by first | exact s_vo_r (by omega) | exact Or.inl (by omega) | exact Or.inr (by omega)), List.forall_mem_cons.mpr ⟨trivial, List.forall_mem_cons.mpr ⟨(by first | exact s_vo_r (by omega) | exact Or.inl (by omega) | exact Or.inr (by omega)), fun _ z => nomatch z⟩⟩⟩⟩)) (fun _ z => nomatch z) (fun w9 h9 n9 z9 _ => ?_)
  obtain ⟨z1, z2, z3⟩ := z9
  obtain rfl := z2.symm
  obtain rfl := z3.symm
  cases z1
  refine g_istore dJ0_init_db425_13 (by decide) ?_
  refine g_lv (l := [(0, .ref t), (1, .ref b), (2, .null), (3, .ref v), (4, .int (nI c))]) ?_ ⟨by rfl, by rfl, by rfl, by rfl, by rfl, trivial⟩
  refine g_aload_n dJ0_init_db425_15 rfl (by rfl) ?_
  refine g_callUg (rest := []) (c_b_latin ho hb) dJ0_init_db425_16 mJ5_isLatin1_aae02 rfl lJ0_1047 nJ5_isLatin1_aae02 iJ5_isLatin1_aae02 qJ5_isLatin1_aae02 (by decide) (by omega) (by exact ho) rfl rfl (Nat.le_of_ble_eq_true rfl) (by omega) (by omega) (fun E h' n' z => by cases z.1) (s_lvs_vo (l := [(0, .ref t), (1, .ref b), (2, .null), (3, .ref v), (4, .int (nI c))]) (List.forall_mem_cons.mpr ⟨(by first | exact s_vo_r (by omega) | exact Or.inl (by omega) | exact Or.inr (by omega)), List.forall_mem_cons.mpr ⟨(by first | exact s_vo_r (by omega) | exact Or.inl (by omega) | exact Or.inr (by omega)), List.forall_mem_cons.mpr ⟨trivial, List.forall_mem_cons.mpr ⟨(by first | exact s_vo_r (by omega) | exact Or.inl (by omega) | exact Or.inr (by omega)), List.forall_mem_cons.mpr ⟨trivial, fun _ z => nomatch z⟩⟩⟩⟩⟩)) (fun _ z => nomatch z) (fun w9 h9 n9 z9 _ => ?_)
  obtain ⟨z1, z2, z3⟩ := z9
  obtain rfl := z2.symm
  obtain rfl := z3.symm
  cases z1
  refine g_if_eq (tgt := 41) dJ0_init_db425_19 (by decide) (fun c_19 => absurd c_19 (by decide)) (fun _ => ?_)
  refine g_aload_n dJ0_init_db425_22 rfl (by rfl) ?_
  refine g_iconst 0 dJ0_init_db425_23 (by rfl) ?_
  refine g_putF' dJ0_init_db425_24 pJ0_15 rfl (fun q z => by cases z; rfl) (by exact ht) (by omega) (by exact Nat.le_of_ble_eq_true rfl) (by rfl) (by rfl) (fun h1 e1 => ?_)
  have ht := s_up_at e1
  have hw := s_up_off e1 (by omega) hw
  have hcl := hcl.up e1 (Nat.le_refl _) (List.forall_mem_cons.mpr ⟨trivial, (List.forall_mem_cons.mpr ⟨trivial, (List.forall_mem_cons.mpr ⟨trivial, (List.forall_mem_cons.mpr ⟨trivial, (fun _ z => nomatch z)⟩)⟩)⟩)⟩) (fun j a c => by omega)
  have hlo := (s_lo.rf (d := t)).up e1 (Nat.le_refl _)
  refine g_aload_n dJ0_init_db425_27 rfl (by rfl) ?_
  refine g_aload_n dJ0_init_db425_28 rfl (by rfl) ?_
  refine g_iconst 0 dJ0_init_db425_29 (by rfl) ?_
  refine g_iload dJ0_init_db425_30 (by rfl) ?_
  refine g_callSg (rest := [.ref t]) (c_b_cor hw hv hcl hn hc hf) dJ0_init_db425_32 mJ7_copyOfRange_39247 rfl lJ0_54 sJ7_copyOfRange_39247 (by decide) rfl rfl (Nat.le_of_ble_eq_true rfl) (by omega) (by omega) (fun E h' n' z => by cases z.1) (s_lvs_vo (l := [(0, .ref t), (1, .ref b), (2, .null), (3, .ref v), (4, .int (nI c))]) (List.forall_mem_cons.mpr ⟨(by first | exact s_vo_r (by omega) | exact Or.inl (by omega) | exact Or.inr (by omega)), List.forall_mem_cons.mpr ⟨(by first | exact s_vo_r (by omega) | exact Or.inl (by omega) | exact Or.inr (by omega)), List.forall_mem_cons.mpr ⟨trivial, List.forall_mem_cons.mpr ⟨(by first | exact s_vo_r (by omega) | exact Or.inl (by omega) | exact Or.inr (by omega)), List.forall_mem_cons.mpr ⟨trivial, fun _ z => nomatch z⟩⟩⟩⟩⟩)) (List.forall_mem_cons.mpr ⟨(by first | exact s_vo_r (by omega) | exact Or.inl (by omega) | exact Or.inr (by omega)), (fun _ z => nomatch z)⟩) (fun w9 h9 n9 z9 _ => ?_)
  obtain ⟨z1, rfl, hx, hcl, hlo2⟩ := z9
  cases z1
  have ht := (hlo2 t htn).trans ht
  have hlo : s_lo _ h9 t := fun j hj => (hlo2 j (by omega)).trans (hlo j hj)
  refine g_putF' dJ0_init_db425_35 pJ0_9 rfl (fun q z => by cases z; rfl) (by exact ht) (by omega) (by exact Nat.le_of_ble_eq_true rfl) (by rfl) (by rfl) (fun h2 e2 => ?_)
  have ht := s_up_at e2
  have hx := s_up_off e2 (by omega) hx
  have hcl := hcl.up e2 (Nat.le_refl _) (List.forall_mem_cons.mpr ⟨(by first | exact s_vo_r (by omega) | exact Or.inl (by omega) | exact Or.inr (by omega)), (List.forall_mem_cons.mpr ⟨trivial, (List.forall_mem_cons.mpr ⟨trivial, (List.forall_mem_cons.mpr ⟨trivial, (fun _ z => nomatch z)⟩)⟩)⟩)⟩) (fun j a c => by omega)
  have hlo := hlo.up e2 (Nat.le_refl _)
  refine g_goto (tgt := 97) dJ0_init_db425_38 (by decide) ?_
  refine g_vreturn dJ0_init_db425_97 rfl ?_
  exact ⟨rfl, rfl, ⟨ht, hx⟩, hcl, hlo⟩
theorem c_s_init1 {h : s_H} {n b v c t : Nat} {f : Nat → Int32} (hsb : s_sb h b v 34 f c) (ht : h t = .inr (7, [.null, .int 0, .int 0, .int 0])) (hb : b < n) (hv : v < n) (htn : t < n) (hbt : b < t) (hvt : v < t) (hcl : s_cl h n) (hn : n + 1 ≤ s_big) (hc : c < 34) (hf : ∀ i, i < c → fits .byte (.int (f i)) = true) : s_Mt TJ0_init_81219 1 34 [.ref t, .ref b] h n (fun o h1 n1 => o = .inl none ∧ n1 = n + 1 ∧ s_tx h1 t n c (va_cpy f (fun _ => 0) 0 0 c) ∧ s_cl h1 (n + 1) ∧ s_lo h h1 t) := by
  refine s_Mt_of rfl (by decide) (by exact Nat.le_of_ble_eq_true rfl) ?_
  refine g_aload_n dJ0_init_81219_0 rfl (by rfl) ?_
  refine g_aload_n dJ0_init_81219_1 rfl (by rfl) ?_
  refine g_null dJ0_init_81219_2 ?_
  refine g_callIg (rest := []) (c_s_init2 hsb ht hb hv htn hbt hvt hcl hn hc hf) dJ0_init_81219_3 mJ0_init_db425 rfl lJ0_489 iJ0_init_db425 rfl rfl (by decide) rfl rfl (Nat.le_of_ble_eq_true rfl) (by omega) (by omega) (fun E h' n' z => by cases z.1) (s_lvs_vo (l := [(0, .ref t), (1, .ref b)]) (List.forall_mem_cons.mpr ⟨(by first | exact s_vo_r (by omega) | exact Or.inl (by omega) | exact Or.inr (by omega)), List.forall_mem_cons.mpr ⟨(by first | exact s_vo_r (by omega) | exact Or.inl (by omega) | exact Or.inr (by omega)), fun _ z => nomatch z⟩⟩)) (fun _ z => nomatch z) (fun w9 h9 n9 z9 _ => ?_)
  obtain ⟨z1, rfl, z2⟩ := z9
  cases z1
  refine g_vreturn dJ0_init_81219_6 rfl ?_
  exact ⟨rfl, rfl, z2⟩
theorem c_b_str {h : s_H} {n b v c : Nat} {f : Nat → Int32} (hsb : s_sb h b v 34 f c) (hb : b < n) (hv : v < n) (hcl : s_cl h n) (hn : n + 2 ≤ s_big) (hc : c < 34) (hf : ∀ i, i < c → fits .byte (.int (f i)) = true) : s_Mt TJ4_toString_0e30d 2 38 [.ref b] h n (fun o h1 n1 => o = .inl (some (.ref n)) ∧ n1 = n + 2 ∧ s_tx h1 n (n + 1) c (va_cpy f (fun _ => 0) 0 0 c) ∧ s_cl h1 (n + 2) ∧ s_lo h h1 n) := by
  refine s_Mt_of rfl (by decide) (by exact Nat.le_of_ble_eq_true rfl) ?_
  obtain ⟨ho, hw⟩ := hsb
  refine g_new' (ci := 7) (C := RJ0) (T9 := TJ0) (N := 4) tyJ0 dJ4_toString_0e30d_0 rfl wiJ0 tyJ0_ok wk_J4_18 wn_J0 wz_J0 zf_J0 zv_J0 (by omega) hcl (s_lvs_vo (l := [(0, .ref b)]) (List.forall_mem_cons.mpr ⟨(by first | exact s_vo_r (by omega) | exact Or.inl (by omega) | exact Or.inr (by omega)), fun _ z => nomatch z⟩)) (fun _ z => nomatch z) (by omega) (by omega) (fun h1 e1 hcl => ?_)
  have ho := s_up_off e1 (by omega) ho
  have hw := s_up_off e1 (by omega) hw
  have ht := s_up_at e1
  refine g_dup dJ4_toString_0e30d_3 (by rfl) ?_
  refine g_aload_n dJ4_toString_0e30d_4 rfl (by rfl) ?_
  refine g_callIg (rest := [.ref n]) (c_s_init1 ⟨ho, hw⟩ ht (by omega) (by omega) (by omega) hb hv hcl (by omega) hc hf) dJ4_toString_0e30d_5 mJ0_init_81219 rfl lJ4_137 iJ0_init_81219 rfl rfl (by decide) rfl rfl (Nat.le_of_ble_eq_true rfl) (by omega) (by omega) (fun E h' n' z => by cases z.1) (s_lvs_vo (l := [(0, .ref b)]) (List.forall_mem_cons.mpr ⟨(by first | exact s_vo_r (by omega) | exact Or.inl (by omega) | exact Or.inr (by omega)), fun _ z => nomatch z⟩)) (List.forall_mem_cons.mpr ⟨(by first | exact s_vo_r (by omega) | exact Or.inl (by omega) | exact Or.inr (by omega)), (fun _ z => nomatch z)⟩) (fun w9 h9 n9 z9 _ => ?_)
  obtain ⟨z1, rfl, hx, hcl, hlo⟩ := z9
  cases z1
  exact g_ret (some (.ref n)) ⟨dJ4_toString_0e30d_8, _, rfl, Or.inl ⟨_, rfl⟩⟩ ⟨rfl, rfl, hx, hcl, fun j hj => (hlo j hj).trans (by rw [e1, s_up_ne _ _ (by omega)])⟩
theorem c_s_coder {h : s_H} {n t v L : Nat} {f : Nat → Int32} (hs : s_tx h t v L f) (ht : t < n) : s_Mt TJ0_coder_7d493 0 0 [.ref t] h n (s_re (some (.int 0)) h n) := by
  refine s_Mt_of rfl (by decide) (by exact Nat.le_of_ble_eq_true rfl) ?_
  obtain ⟨ho, hw⟩ := hs
  refine g_kcs rfl dJ0_coder_7d493_0 ?_
  refine g_if_eq (tgt := 13) dJ0_coder_7d493_3 (by decide) (fun c_3 => absurd c_3 (by decide)) (fun _ => ?_)
  refine g_aload_n dJ0_coder_7d493_6 rfl (by rfl) ?_
  refine g_getf dJ0_coder_7d493_7 fJ0_15 (by exact ho) (by omega) (by rfl) ?_
  refine g_goto (tgt := 14) dJ0_coder_7d493_10 (by decide) ?_
  exact g_ret (some (.int 0)) ⟨dJ0_coder_7d493_14, .byte, rfl, rfl⟩ ⟨rfl, rfl, rfl⟩
theorem c_s_latin {h : s_H} {n t v L : Nat} {f : Nat → Int32} (hs : s_tx h t v L f) (ht : t < n) : s_Mt TJ0_isLatin1_aae02 0 0 [.ref t] h n (s_re (some (.int 1)) h n) := by
  refine s_Mt_of rfl (by decide) (by exact Nat.le_of_ble_eq_true rfl) ?_
  obtain ⟨ho, hw⟩ := hs
  refine g_kcs rfl dJ0_isLatin1_aae02_0 ?_
  refine g_if_eq (tgt := 17) dJ0_isLatin1_aae02_3 (by decide) (fun c_3 => absurd c_3 (by decide)) (fun _ => ?_)
  refine g_aload_n dJ0_isLatin1_aae02_6 rfl (by rfl) ?_
  refine g_getf dJ0_isLatin1_aae02_7 fJ0_15 (by exact ho) (by omega) (by rfl) ?_
  refine g_if_ne (tgt := 17) dJ0_isLatin1_aae02_10 (by decide) (fun c_10 => absurd rfl c_10) (fun _ => ?_)
  refine g_iconst 1 dJ0_isLatin1_aae02_13 (by rfl) ?_
  refine g_goto (tgt := 18) dJ0_isLatin1_aae02_14 (by decide) ?_
  refine g_zreturn dJ0_isLatin1_aae02_18 rfl (by decide) ?_
  exact ⟨rfl, rfl, rfl⟩
theorem c_s_length {h : s_H} {n t v L : Nat} {f : Nat → Int32} (hs : s_tx h t v L f) (ht : t < n) (hv : v < n) (hL : L < 1000) : s_Mt TJ0_length_8abf5 0 0 [.ref t] h n (s_re (some (.int (nI L))) h n) := by
  refine s_Mt_of rfl (by decide) (by exact Nat.le_of_ble_eq_true rfl) ?_
  have hs9 := hs
  obtain ⟨ho, hw⟩ := hs
  refine g_aload_n dJ0_length_8abf5_0 rfl (by rfl) ?_
  refine g_getf dJ0_length_8abf5_1 fJ0_9 (by exact ho) (by omega) (by rfl) ?_
  refine g_balen dJ0_length_8abf5_4 (by exact hw) (by omega) ?_
  refine g_aload_n dJ0_length_8abf5_5 rfl (by rfl) ?_
  refine g_callV_e (c_s_coder hs9 ht) dJ0_length_8abf5_6 mJ0_coder_7d493 rfl lJ0_335 iJ0_coder_7d493 vJ0_coder_7d493 (by decide) (by omega) (by exact ho) rfl rfl rfl rfl (Nat.le_of_ble_eq_true rfl) ?_
  refine g_ishr dJ0_length_8abf5_9 ?_
  rw [nI_shr0 (by omega)]
  refine g_ireturn dJ0_length_8abf5_10 rfl ?_
  exact ⟨rfl, rfl, rfl⟩
theorem c_s_lchar {h : s_H} {n v L j : Nat} {f : Nat → Int32} (hw : h v = .inl (2, L, .inl f)) (hv : v < n) (hj : j < L) (hL : L < 1000) (h1 : ((f j &&& 255).toUInt32 % 65536).toInt32 = f j) (h2 : narrow .char (.int (f j)) = .int (f j)) : s_Mt TJ1_charAt_3b067 0 0 [.ref v, .int (nI j)] h n (s_re (some (.int (f j))) h n) := by
  refine s_Mt_of rfl (by decide) (by exact Nat.le_of_ble_eq_true rfl) ?_
  refine g_iload_n dJ1_charAt_3b067_0 rfl (by rfl) ?_
  refine g_aload_n dJ1_charAt_3b067_1 rfl (by rfl) ?_
  refine g_balen dJ1_charAt_3b067_2 (by exact hw) (by omega) ?_
  refine g_callS_e (c_chk0 (nI_pos (by omega)) (nI_lt hj (by omega))) dJ1_charAt_3b067_3 mJ0_checkIndex_df160 rfl lJ1_9 sJ0_checkIndex_df160 (by decide) rfl rfl (Nat.le_of_ble_eq_true rfl) ?_
  refine g_aload_n dJ1_charAt_3b067_6 rfl (by rfl) ?_
  refine g_iload_n dJ1_charAt_3b067_7 rfl (by rfl) ?_
  refine g_bald dJ1_charAt_3b067_8 (by exact hw) (by omega) (by rfl) (by omega) (by omega) ?_
  refine g_sipush 255 dJ1_charAt_3b067_9 (by rfl) ?_
  refine g_iand dJ1_charAt_3b067_12 ?_
  refine g_i2c dJ1_charAt_3b067_13 ?_
  rw [h1]
  exact g_ret (some (.int (f j))) ⟨dJ1_charAt_3b067_14, .char, rfl, h2⟩ ⟨rfl, rfl, rfl⟩
theorem c_s_charAt {h : s_H} {n t v L j : Nat} {f : Nat → Int32} (hs : s_tx h t v L f) (ht : t < n) (hv : v < n) (hj : j < L) (hL : L < 1000) (h1 : ((f j &&& 255).toUInt32 % 65536).toInt32 = f j) (h2 : narrow .char (.int (f j)) = .int (f j)) : s_Mt TJ0_charAt_5068e 0 0 [.ref t, .int (nI j)] h n (s_re (some (.int (f j))) h n) := by
  refine s_Mt_of rfl (by decide) (by exact Nat.le_of_ble_eq_true rfl) ?_
  have hs9 := hs
  obtain ⟨ho, hw⟩ := hs
  refine g_aload_n dJ0_charAt_5068e_0 rfl (by rfl) ?_
  refine g_callV_e (c_s_latin hs9 ht) dJ0_charAt_5068e_1 mJ0_isLatin1_aae02 rfl lJ0_492 iJ0_isLatin1_aae02 vJ0_isLatin1_aae02 (by decide) (by omega) (by exact ho) rfl rfl rfl rfl (Nat.le_of_ble_eq_true rfl) ?_
  refine g_if_eq (tgt := 16) dJ0_charAt_5068e_4 (by decide) (fun c_4 => absurd c_4 (by decide)) (fun _ => ?_)
  refine g_aload_n dJ0_charAt_5068e_7 rfl (by rfl) ?_
  refine g_getf dJ0_charAt_5068e_8 fJ0_9 (by exact ho) (by omega) (by rfl) ?_
  refine g_iload_n dJ0_charAt_5068e_11 rfl (by rfl) ?_
  refine g_callS_e (c_s_lchar hw hv hj hL h1 h2) dJ0_charAt_5068e_12 mJ1_charAt_3b067 rfl lJ0_495 sJ1_charAt_3b067 (by decide) rfl rfl (Nat.le_of_ble_eq_true rfl) ?_
  exact g_ret (some (.int (f j))) ⟨dJ0_charAt_5068e_15, .char, rfl, h2⟩ ⟨rfl, rfl, rfl⟩
