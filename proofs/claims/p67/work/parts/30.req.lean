/-! THE COMPONENT: what arguments must be -/
abbrev s_us (x y : Int32) : Int32 := (x.toUInt32 >>> (y.toUInt32 &&& Int32.toUInt32 31)).toInt32
def s_bc1 (x : Int32) : Int32 := x - (s_us x 1 &&& 1431655765)
def s_bc2 (x : Int32) : Int32 := (x &&& 858993459) + (s_us x 2 &&& 858993459)
def s_bc3 (x : Int32) : Int32 := (x + s_us x 4) &&& 252645135
def s_bc4 (x : Int32) : Int32 := x + s_us x 8
def s_bc5 (x : Int32) : Int32 := x + s_us x 16
/-- how many bits, as the library counts them -/
def s_bc (x : Int32) : Int32 := s_bc5 (s_bc4 (s_bc3 (s_bc2 (s_bc1 x)))) &&& 63

theorem c_bit {h : s_H} {n : Nat} (x : Int32) : s_Mt TJ6_bitCount_0f7a4 0 0 [.int x] h n (s_re (some (.int (s_bc x))) h n) := by
  refine s_Mt_of rfl (by decide) (by exact Nat.le_of_ble_eq_true rfl) ?_
  refine g_iload_n dJ6_bitCount_0f7a4_0 rfl (by rfl) ?_
  refine g_iload_n dJ6_bitCount_0f7a4_1 rfl (by rfl) ?_
  refine g_iconst 1 dJ6_bitCount_0f7a4_2 (by rfl) ?_
  refine g_iushr dJ6_bitCount_0f7a4_3 ?_
  refine g_ldcw dJ6_bitCount_0f7a4_4 kJ6_265 ?_
  refine g_iand dJ6_bitCount_0f7a4_7 ?_
  refine g_isub dJ6_bitCount_0f7a4_8 ?_
  refine g_istore_n dJ6_bitCount_0f7a4_9 rfl (by decide) ?_
  refine g_iload_n dJ6_bitCount_0f7a4_10 rfl (by rfl) ?_
  refine g_ldcw dJ6_bitCount_0f7a4_11 kJ6_266 ?_
  refine g_iand dJ6_bitCount_0f7a4_14 ?_
  refine g_iload_n dJ6_bitCount_0f7a4_15 rfl (by rfl) ?_
  refine g_iconst 2 dJ6_bitCount_0f7a4_16 (by rfl) ?_
  refine g_iushr dJ6_bitCount_0f7a4_17 ?_
  refine g_ldcw dJ6_bitCount_0f7a4_18 kJ6_266 ?_
  refine g_iand dJ6_bitCount_0f7a4_21 ?_
  refine g_iadd dJ6_bitCount_0f7a4_22 ?_
  refine g_istore_n dJ6_bitCount_0f7a4_23 rfl (by decide) ?_
  refine g_iload_n dJ6_bitCount_0f7a4_24 rfl (by rfl) ?_
  refine g_iload_n dJ6_bitCount_0f7a4_25 rfl (by rfl) ?_
  refine g_iconst 4 dJ6_bitCount_0f7a4_26 (by rfl) ?_
  refine g_iushr dJ6_bitCount_0f7a4_27 ?_
  refine g_iadd dJ6_bitCount_0f7a4_28 ?_
  refine g_ldcw dJ6_bitCount_0f7a4_29 kJ6_267 ?_
  refine g_iand dJ6_bitCount_0f7a4_32 ?_
  refine g_istore_n dJ6_bitCount_0f7a4_33 rfl (by decide) ?_
  refine g_iload_n dJ6_bitCount_0f7a4_34 rfl (by rfl) ?_
  refine g_iload_n dJ6_bitCount_0f7a4_35 rfl (by rfl) ?_
  refine g_bipush 8 dJ6_bitCount_0f7a4_36 (by rfl) ?_
  refine g_iushr dJ6_bitCount_0f7a4_38 ?_
  refine g_iadd dJ6_bitCount_0f7a4_39 ?_
  refine g_istore_n dJ6_bitCount_0f7a4_40 rfl (by decide) ?_
  refine g_iload_n dJ6_bitCount_0f7a4_41 rfl (by rfl) ?_
  refine g_iload_n dJ6_bitCount_0f7a4_42 rfl (by rfl) ?_
  refine g_bipush 16 dJ6_bitCount_0f7a4_43 (by rfl) ?_
  refine g_iushr dJ6_bitCount_0f7a4_45 ?_
  refine g_iadd dJ6_bitCount_0f7a4_46 ?_
  refine g_istore_n dJ6_bitCount_0f7a4_47 rfl (by decide) ?_
  refine g_iload_n dJ6_bitCount_0f7a4_48 rfl (by rfl) ?_
  refine g_bipush 63 dJ6_bitCount_0f7a4_49 (by rfl) ?_
  refine g_iand dJ6_bitCount_0f7a4_51 ?_
  refine g_ireturn dJ6_bitCount_0f7a4_52 rfl ?_
  exact ⟨rfl, rfl, rfl⟩

theorem c_X8_requireWithin {h : s_H} {n : Nat} (x lo hi : Int32) : s_Mt TX8_requireWithin 1 6 [.int x, .int lo, .int hi] h n (s_rp n (fun v9 h1 => v9 = none ∧ h1 = h ∧ ¬ (x < lo ∨ hi < x)) (fun E h1 => E = "java/lang/IllegalArgumentException" ∧ h1 = h ∧ (x < lo ∨ hi < x))) := by
  refine s_Mt_of rfl (by decide) (by exact Nat.le_of_ble_eq_true rfl) ?_
  refine g_iload_n dX8_requireWithin_0 rfl (by rfl) ?_
  refine g_iload_n dX8_requireWithin_1 rfl (by rfl) ?_
  refine g_icmp_lt (tgt := 10) dX8_requireWithin_2 (by decide) (fun c_2 => ?_) (fun c_2 => ?_)
  · have hbad : x < lo ∨ hi < x := Or.inl c_2
    refine g_throwW (text := "a number is out of its range") dX8_requireWithin_10 dX8_requireWithin_13 dX8_requireWithin_14 dX8_requireWithin_17 dX8_requireWithin_20 rfl (by decide) twIa (Nat.le_of_ble_eq_true rfl) (Nat.le_of_ble_eq_true rfl) (Nat.le_of_ble_eq_true rfl) (gx_out rfl ?_)
    exact ⟨rfl, rfl, rfl, hbad⟩
  · refine g_iload_n dX8_requireWithin_5 rfl (by rfl) ?_
    refine g_iload_n dX8_requireWithin_6 rfl (by rfl) ?_
    refine g_icmp_le (tgt := 21) dX8_requireWithin_7 (by decide) (fun c_7 => ?_) (fun c_7 => ?_)
    · refine g_vreturn dX8_requireWithin_21 rfl ?_
      exact ⟨rfl, rfl, rfl, fun z => z.elim c_2 (fun z => Int32.not_le.mpr z c_7)⟩
    · have hbad : x < lo ∨ hi < x := Or.inr (Int32.not_le.mp c_7)
      refine g_throwW (text := "a number is out of its range") dX8_requireWithin_10 dX8_requireWithin_13 dX8_requireWithin_14 dX8_requireWithin_17 dX8_requireWithin_20 rfl (by decide) twIa (Nat.le_of_ble_eq_true rfl) (Nat.le_of_ble_eq_true rfl) (Nat.le_of_ble_eq_true rfl) (gx_out rfl ?_)
      exact ⟨rfl, rfl, rfl, hbad⟩

theorem c_X8_requireItem {h : s_H} {n b : Nat} {π : s_Pl} (hP : s_pl h b π) (hn : b + 93 ≤ n) (x : Int32) : s_Mt TX8_requireItem 1 6 [.ref b, .int x] h n (s_rp n (fun v9 h1 => v9 = none ∧ h1 = h ∧ (¬ x < 0 ∧ x < π.1.2 0)) (fun E h1 => E = "java/lang/IndexOutOfBoundsException" ∧ h1 = h ∧ ¬ (¬ x < 0 ∧ x < π.1.2 0))) := by
  obtain ⟨hb, hD, hS, ⟨σt, hDt⟩, ⟨pm, hH⟩, hT, ⟨go, gl, hG, hgl, hgo⟩, ⟨nx, tk, ts, ex, hsc⟩, hR⟩ := id hP
  have hd := hD.1
  unfold s_po at hb
  refine s_Mt_of rfl (by decide) (by exact Nat.le_of_ble_eq_true rfl) ?_
  refine g_iload_n dX8_requireItem_0 rfl (by rfl) ?_
  refine g_if_lt (tgt := 15) dX8_requireItem_1 (by decide) (fun c_1 => ?_) (fun c_1 => ?_)
  · have hbad : ¬ (¬ x < 0 ∧ x < π.1.2 0) := fun z => z.1 c_1
    refine g_throwW (text := "there is no such item") dX8_requireItem_15 dX8_requireItem_18 dX8_requireItem_19 dX8_requireItem_22 dX8_requireItem_25 rfl (by decide) twIo (Nat.le_of_ble_eq_true rfl) (Nat.le_of_ble_eq_true rfl) (Nat.le_of_ble_eq_true rfl) (gx_out rfl ?_)
    exact ⟨rfl, rfl, rfl, hbad⟩
  · refine g_iload_n dX8_requireItem_4 rfl (by rfl) ?_
    refine g_aload_n dX8_requireItem_5 rfl (by rfl) ?_
    refine g_getf dX8_requireItem_6 fX8_12 (by exact hb) (by omega) (by rfl) ?_
    refine g_getf dX8_requireItem_9 fX8_99 (by exact hd) (by omega) (by rfl) ?_
    refine g_icmp_lt (tgt := 26) dX8_requireItem_12 (by decide) (fun c_12 => ?_) (fun c_12 => ?_)
    · refine g_vreturn dX8_requireItem_26 rfl ?_
      exact ⟨rfl, rfl, rfl, c_1, c_12⟩
    · have hbad : ¬ (¬ x < 0 ∧ x < π.1.2 0) := fun z => c_12 z.2
      refine g_throwW (text := "there is no such item") dX8_requireItem_15 dX8_requireItem_18 dX8_requireItem_19 dX8_requireItem_22 dX8_requireItem_25 rfl (by decide) twIo (Nat.le_of_ble_eq_true rfl) (Nat.le_of_ble_eq_true rfl) (Nat.le_of_ble_eq_true rfl) (gx_out rfl ?_)
      exact ⟨rfl, rfl, rfl, hbad⟩

theorem c_X8_requireCell {h : s_H} {n b : Nat} {π : s_Pl} (hP : s_pl h b π) (hn : b + 93 ≤ n) {cnt cp : Nat} (ok : d_ok π.1 cnt cp) (x lo y : Int32) : s_Mt TX8_requireCell 1 6 [.ref b, .int x, .int lo, .int y] h n (s_rp n (fun v9 h1 => v9 = none ∧ h1 = h ∧ ¬ (x < lo ∨ s_bc (d_set π.1 0 cnt) < x ∨ y < 0 ∨ 100 < y)) (fun E h1 => E = "java/lang/IndexOutOfBoundsException" ∧ h1 = h ∧ (x < lo ∨ s_bc (d_set π.1 0 cnt) < x ∨ y < 0 ∨ 100 < y))) := by
  obtain ⟨hb, hD, hS, ⟨σt, hDt⟩, ⟨pm, hH⟩, hT, ⟨go, gl, hG, hgl, hgo⟩, ⟨nx, tk, ts, ex, hsc⟩, hR⟩ := id hP
  have hd := hD.1
  unfold s_po at hb
  refine s_Mt_of rfl (by decide) (by exact Nat.le_of_ble_eq_true rfl) ?_
  refine g_iload_n dX8_requireCell_0 rfl (by rfl) ?_
  refine g_iload_n dX8_requireCell_1 rfl (by rfl) ?_
  refine g_icmp_lt (tgt := 30) dX8_requireCell_2 (by decide) (fun c_2 => ?_) (fun c_2 => ?_)
  · have hbad : (x < lo ∨ s_bc (d_set π.1 0 cnt) < x ∨ y < 0 ∨ 100 < y) := Or.inl c_2
    refine g_throwW (text := "there is no such cell") dX8_requireCell_30 dX8_requireCell_33 dX8_requireCell_34 dX8_requireCell_37 dX8_requireCell_40 rfl (by decide) twIo (Nat.le_of_ble_eq_true rfl) (Nat.le_of_ble_eq_true rfl) (Nat.le_of_ble_eq_true rfl) (gx_out rfl ?_)
    exact ⟨rfl, rfl, rfl, hbad⟩
  · refine g_iload_n dX8_requireCell_5 rfl (by rfl) ?_
    refine g_aload_n dX8_requireCell_6 rfl (by rfl) ?_
    refine g_getf dX8_requireCell_7 fX8_12 (by exact hb) (by omega) (by rfl) ?_
    refine g_iconst 0 dX8_requireCell_10 (by rfl) ?_
    refine g_callV_e (c_X2_setOf hD (by omega) ok.1 ok.2.1 0) dX8_requireCell_11 (mX2_setOf) rfl lX8_176 iX2_setOf vX2_setOf (by decide) (by omega) (by exact hd) rfl rfl rfl rfl (Nat.le_of_ble_eq_true rfl) ?_
    refine g_callS_e (c_bit _) dX8_requireCell_14 (mJ6_bitCount_0f7a4) rfl lX8_150 sJ6_bitCount_0f7a4 (by decide) rfl rfl (Nat.le_of_ble_eq_true rfl) ?_
    refine g_icmp_gt (tgt := 30) dX8_requireCell_17 (by decide) (fun c_17 => ?_) (fun c_17 => ?_)
    · have hbad : (x < lo ∨ s_bc (d_set π.1 0 cnt) < x ∨ y < 0 ∨ 100 < y) := Or.inr (Or.inl c_17)
      refine g_throwW (text := "there is no such cell") dX8_requireCell_30 dX8_requireCell_33 dX8_requireCell_34 dX8_requireCell_37 dX8_requireCell_40 rfl (by decide) twIo (Nat.le_of_ble_eq_true rfl) (Nat.le_of_ble_eq_true rfl) (Nat.le_of_ble_eq_true rfl) (gx_out rfl ?_)
      exact ⟨rfl, rfl, rfl, hbad⟩
    · refine g_iload_n dX8_requireCell_20 rfl (by rfl) ?_
      refine g_if_lt (tgt := 30) dX8_requireCell_21 (by decide) (fun c_21 => ?_) (fun c_21 => ?_)
      · have hbad : (x < lo ∨ s_bc (d_set π.1 0 cnt) < x ∨ y < 0 ∨ 100 < y) := Or.inr (Or.inr (Or.inl c_21))
        refine g_throwW (text := "there is no such cell") dX8_requireCell_30 dX8_requireCell_33 dX8_requireCell_34 dX8_requireCell_37 dX8_requireCell_40 rfl (by decide) twIo (Nat.le_of_ble_eq_true rfl) (Nat.le_of_ble_eq_true rfl) (Nat.le_of_ble_eq_true rfl) (gx_out rfl ?_)
        exact ⟨rfl, rfl, rfl, hbad⟩
      · refine g_iload_n dX8_requireCell_24 rfl (by rfl) ?_
        refine g_bipush 100 dX8_requireCell_25 (by rfl) ?_
        refine g_icmp_le (tgt := 41) dX8_requireCell_27 (by decide) (fun c_27 => ?_) (fun c_27 => ?_)
        · refine g_vreturn dX8_requireCell_41 rfl ?_
          exact ⟨rfl, rfl, rfl, fun z => z.elim c_2 (fun z => z.elim c_17 (fun z => z.elim c_21 (fun z => Int32.not_le.mpr z c_27)))⟩
        · have hbad : (x < lo ∨ s_bc (d_set π.1 0 cnt) < x ∨ y < 0 ∨ 100 < y) := Or.inr (Or.inr (Or.inr (Int32.not_le.mp c_27)))
          refine g_throwW (text := "there is no such cell") dX8_requireCell_30 dX8_requireCell_33 dX8_requireCell_34 dX8_requireCell_37 dX8_requireCell_40 rfl (by decide) twIo (Nat.le_of_ble_eq_true rfl) (Nat.le_of_ble_eq_true rfl) (Nat.le_of_ble_eq_true rfl) (gx_out rfl ?_)
          exact ⟨rfl, rfl, rfl, hbad⟩
