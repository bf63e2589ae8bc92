/-! THE MODEL: its fields, what reads the present state -/
abbrev m_fs (m : Nat) (I : Nat → Int32) : List Value := [.int (I 0), .ref (m + 1), .ref (m + 2), .int (I 3), .ref (m + 13), .int (I 5), .ref (m + 14), .ref (m + 15), .ref (m + 16), .int (I 9), .ref (m + 17), .int (I 11), .ref (m + 18), .ref (m + 19), .ref (m + 20), .int (I 15), .int (I 16), .int (I 17), .int (I 18), .int (I 19), .int (I 20), .int (I 21), .int (I 22), .int (I 23), .int (I 24)]
def m_at (h : s_H) (m : Nat) (I w : Nat → Int32) : Prop := h m = .inr (7, m_fs m I) ∧ h (m + 1) = .inl (0, 61, .inl w)
theorem m_at.off {h h1 : s_H} {m a b : Nat} {I w : Nat → Int32} (q : m_at h m I w) (z : s_off h h1 a b) (hd : m + 2 ≤ a ∨ b ≤ m) : m_at h1 m I w := ⟨(z _ (by omega)).trans q.1, (z _ (by omega)).trans q.2⟩
/-- the present state, as a disk -/
def m_D (w : Nat → Int32) : s_D := (fun f i => w (5 + i * 4 + f), d_mk (w 1) (w 0) (w 2) (w 3) (w 4))
theorem upd_upd {f : Nat → Int32} {i : Nat} {a b : Int32} : upd (upd f i a) i b = upd f i b := by
  funext j
  simp only [upd]
  split <;> rfl

theorem c_X9_of {h : s_H} {n m : Nat} {I w : Nat → Int32} (hM : m_at h m I w) (hn : m + 21 ≤ n) (i f : Nat) (hi : 5 + i * 4 + f < 61) : s_Mt TX9_of 0 0 [.ref m, .int (nI i), .int (nI f)] h n (s_re (some (.int ((m_D w).1 f i))) h n) := by
  have hm := hM.1
  have hw := hM.2
  refine s_Mt_of rfl (by decide) (by exact Nat.le_of_ble_eq_true rfl) ?_
  refine g_aload_n dX9_of_0 rfl (by rfl) ?_
  refine g_getf dX9_of_1 fX9_9 (by exact hm) (by omega) (by rfl) ?_
  refine g_iconst 5 dX9_of_4 (by rfl) ?_
  refine g_iload_n dX9_of_5 rfl (by rfl) ?_
  refine g_iconst 4 dX9_of_6 (by rfl) ?_
  refine g_imul dX9_of_7 ?_
  rw [show (4 : Int32) = nI 4 from rfl, nI_mul]
  refine g_iadd dX9_of_8 ?_
  rw [show (5 : Int32) = nI 5 from rfl, nI_add]
  refine g_iload_n dX9_of_9 rfl (by rfl) ?_
  refine g_iadd dX9_of_10 ?_
  rw [nI_add]
  refine g_iald dX9_of_11 (by exact hw) (by omega) (by rfl) (by omega) (by omega) ?_
  refine g_ireturn dX9_of_12 rfl ?_
  exact ⟨rfl, rfl, rfl⟩

theorem c_X9_put {h : s_H} {n m : Nat} {I w : Nat → Int32} (hM : m_at h m I w) (hn : m + 21 ≤ n) (i f : Nat) (hi : 5 + i * 4 + f < 61) (x : Int32) : s_Mt TX9_put 0 0 [.ref m, .int (nI i), .int (nI f), .int x] h n (s_rp n (fun v9 h1 => v9 = none ∧ m_at h1 m I (upd w (5 + i * 4 + f) x) ∧ s_off h h1 (m + 1) (m + 2)) s_no) := by
  have hm := hM.1
  have hw := hM.2
  refine s_Mt_of rfl (by decide) (by exact Nat.le_of_ble_eq_true rfl) ?_
  refine g_aload_n dX9_put_0 rfl (by rfl) ?_
  refine g_getf dX9_put_1 fX9_9 (by exact hm) (by omega) (by rfl) ?_
  refine g_iconst 5 dX9_put_4 (by rfl) ?_
  refine g_iload_n dX9_put_5 rfl (by rfl) ?_
  refine g_iconst 4 dX9_put_6 (by rfl) ?_
  refine g_imul dX9_put_7 ?_
  rw [show (4 : Int32) = nI 4 from rfl, nI_mul]
  refine g_iadd dX9_put_8 ?_
  rw [show (5 : Int32) = nI 5 from rfl, nI_add]
  refine g_iload_n dX9_put_9 rfl (by rfl) ?_
  refine g_iadd dX9_put_10 ?_
  rw [nI_add]
  refine g_iload_n dX9_put_11 rfl (by rfl) ?_
  refine g_iast' dX9_put_12 (by exact hw) (by omega) (by rfl) (by omega) (by omega) (fun h1 e1 => ?_)
  first | have hm_1 := s_up_off e1 (by omega) hm | have hm_1 := s_up_at e1
  first | have hw_1 := s_up_off e1 (by omega) hw | have hw_1 := s_up_at e1
  refine g_vreturn dX9_put_13 rfl ?_
  exact ⟨rfl, rfl, ⟨hm_1, hw_1⟩, ((s_off.rf (a := (m + 1)) (b := (m + 2))).up e1 (by omega))⟩

theorem c_X9_is {h : s_H} {n m : Nat} {I w : Nat → Int32} (hM : m_at h m I w) (hn : m + 21 ≤ n) (i : Nat) (hi : i < 14) (st : Int32) : s_Mt TX9_is 0 0 [.ref m, .int (nI i), .int st] h n (s_re (some (.int (if (m_D w).1 3 i = st then 1 else 0))) h n) := by
  have hm := hM.1
  have hw := hM.2
  refine s_Mt_of rfl (by decide) (by exact Nat.le_of_ble_eq_true rfl) ?_
  refine g_aload_n dX9_is_0 rfl (by rfl) ?_
  refine g_iload_n dX9_is_1 rfl (by rfl) ?_
  refine g_iconst (nI 3) dX9_is_2 (by rfl) ?_
  refine g_callV_e (c_X9_of hM hn i 3 (by omega)) dX9_is_3 (mX9_of) rfl lX9_73 iX9_of vX9_of (by decide) (by omega) (by exact hm) rfl rfl rfl rfl (Nat.le_of_ble_eq_true rfl) ?_
  refine g_iload_n dX9_is_6 rfl (by rfl) ?_
  refine g_icmp_ne (tgt := 14) dX9_is_7 (by decide) (fun c_7 => ?_) (fun c_7 => ?_)
  · have hne : ¬ (m_D w).1 3 i = st := c_7
    refine g_iconst 0 dX9_is_14 (by rfl) ?_
    refine g_zreturn dX9_is_15 rfl (by decide) ?_
    first | exact ⟨by rw [if_pos he], rfl, rfl⟩ | exact ⟨by rw [if_neg hne], rfl, rfl⟩
  · have he : (m_D w).1 3 i = st := c_7
    refine g_iconst 1 dX9_is_10 (by rfl) ?_
    refine g_goto (tgt := 15) dX9_is_11 (by decide) ?_
    refine g_zreturn dX9_is_15 rfl (by decide) ?_
    first | exact ⟨by rw [if_pos he], rfl, rfl⟩ | exact ⟨by rw [if_neg hne], rfl, rfl⟩

theorem s_bit01 (a b : Int32) : s_bit a b = 0 ∨ s_bit a b = 1 := by
  have key : ∀ x : BitVec 32, x &&& 1#32 = 0#32 ∨ x &&& 1#32 = 1#32 := fun x => by
    have : x &&& 1#32 = BitVec.ofNat 32 (x.toNat % 2) := by
      apply BitVec.eq_of_toNat_eq
      rw [BitVec.toNat_and]
      show x.toNat &&& 1 = _
      rw [Nat.and_one_is_mod, BitVec.toNat_ofNat]
      omega
    rcases Nat.mod_two_eq_zero_or_one x.toNat with e | e
    · left; rw [this, e]
    · right; rw [this, e]
  rcases key (a >>> (b &&& 31)).toBitVec with h | h
  · exact Or.inl (Int32.toBitVec_inj.mp h)
  · exact Or.inr (Int32.toBitVec_inj.mp h)

theorem c_X9_has {h : s_H} {n : Nat} (x y : Int32) : s_Mt TX9_has 0 0 [.int x, .int y] h n (s_re (some (.int (if s_bit x y = 0 then 0 else 1))) h n) := by
  refine s_Mt_of rfl (by decide) (by exact Nat.le_of_ble_eq_true rfl) ?_
  refine g_iload_n dX9_has_0 rfl (by rfl) ?_
  refine g_iload_n dX9_has_1 rfl (by rfl) ?_
  refine g_ishr dX9_has_2 ?_
  refine g_iconst 1 dX9_has_3 (by rfl) ?_
  refine g_iand dX9_has_4 ?_
  refine g_iconst 1 dX9_has_5 (by rfl) ?_
  refine g_icmp_ne (tgt := 13) dX9_has_6 (by decide) (fun c_6 => ?_) (fun c_6 => ?_)
  · have hz : s_bit x y = 0 := (s_bit01 x y).resolve_right c_6
    refine g_iconst 0 dX9_has_13 (by rfl) ?_
    refine g_zreturn dX9_has_14 rfl (by decide) ?_
    first | exact ⟨by rw [if_pos hz], rfl, rfl⟩ | exact ⟨by rw [if_neg hz], rfl, rfl⟩
  · have hz : ¬ s_bit x y = 0 := fun z => absurd (z.symm.trans c_6) (by decide)
    refine g_iconst 1 dX9_has_9 (by rfl) ?_
    refine g_goto (tgt := 14) dX9_has_10 (by decide) ?_
    refine g_zreturn dX9_has_14 rfl (by decide) ?_
    first | exact ⟨by rw [if_pos hz], rfl, rfl⟩ | exact ⟨by rw [if_neg hz], rfl, rfl⟩

theorem c_X9_weightOf {h : s_H} {n m : Nat} {I w : Nat → Int32} (hM : m_at h m I w) (hn : m + 21 ≤ n) (i : Nat) (hi : i < 14) : s_Mt TX9_weightOf 0 0 [.ref m, .int (nI i)] h n (s_re (some (.int (d_wt (m_D w) i))) h n) := by
  have hm := hM.1
  have hw := hM.2
  refine s_Mt_of rfl (by decide) (by exact Nat.le_of_ble_eq_true rfl) ?_
  refine g_aload_n dX9_weightOf_0 rfl (by rfl) ?_
  refine g_iload_n dX9_weightOf_1 rfl (by rfl) ?_
  refine g_iconst (nI 1) dX9_weightOf_2 (by rfl) ?_
  refine g_callV_e (c_X9_of hM hn i 1 (by omega)) dX9_weightOf_3 (mX9_of) rfl lX9_73 iX9_of vX9_of (by decide) (by omega) (by exact hm) rfl rfl rfl rfl (Nat.le_of_ble_eq_true rfl) ?_
  refine g_iconst 1 dX9_weightOf_6 (by rfl) ?_
  refine g_aload_n dX9_weightOf_7 rfl (by rfl) ?_
  refine g_iload_n dX9_weightOf_8 rfl (by rfl) ?_
  refine g_iconst (nI 2) dX9_weightOf_9 (by rfl) ?_
  refine g_callV_e (c_X9_of hM hn i 2 (by omega)) dX9_weightOf_10 (mX9_of) rfl lX9_73 iX9_of vX9_of (by decide) (by omega) (by exact hm) rfl rfl rfl rfl (Nat.le_of_ble_eq_true rfl) ?_
  refine g_iadd dX9_weightOf_13 ?_
  refine g_imul dX9_weightOf_14 ?_
  refine g_ireturn dX9_weightOf_15 rfl ?_
  exact ⟨rfl, rfl, rfl⟩

theorem c_X9_inState {h : s_H} {n m : Nat} {I w : Nat → Int32} (hM : m_at h m I w) (hn : m + 21 ≤ n) {cnt : Nat} (hc : w 1 = nI cnt) (h14 : cnt ≤ 14) (st : Int32) : s_Mt TX9_inState 0 0 [.ref m, .int st] h n (s_re (some (.int (d_set (m_D w) st cnt))) h n) := by
  have hm := hM.1
  have hw := hM.2
  have loop : ∀ (r k : Nat), k + r = cnt → s_G TX9_inState (s_re (some (.int (d_set (m_D w) st cnt))) h n) 4 (s_lvs [(0, .ref m), (1, .int st), (2, .int (d_set (m_D w) st k)), (3, .int (nI k))]) [] h n 0 0 := by
    intro r
    induction r with
    | zero =>
      intro k hk
      obtain rfl : k = cnt := by omega
      refine g_iload_n dX9_inState_4 rfl (by rfl) ?_
      refine g_aload_n dX9_inState_5 rfl (by rfl) ?_
      refine g_getf dX9_inState_6 fX9_9 (by exact hm) (by omega) (by rfl) ?_
      refine g_iconst 1 dX9_inState_9 (by rfl) ?_
      refine g_iald dX9_inState_10 (by exact hw) (by omega) (show (1 : Int32) = nI 1 from rfl) (by decide) (by omega) ?_
      refine g_icmp_ge (tgt := 39) dX9_inState_11 (by decide) (fun _ => ?_) (fun c_11 => absurd (by rw [hc]; exact nI_le (Nat.le_refl _) (by omega)) c_11)
      refine g_iload_n dX9_inState_39 rfl (by rfl) ?_
      refine g_ireturn dX9_inState_40 rfl ?_
      exact ⟨rfl, rfl, rfl⟩
    | succ r ih =>
      intro k hk
      refine g_iload_n dX9_inState_4 rfl (by rfl) ?_
      refine g_aload_n dX9_inState_5 rfl (by rfl) ?_
      refine g_getf dX9_inState_6 fX9_9 (by exact hm) (by omega) (by rfl) ?_
      refine g_iconst 1 dX9_inState_9 (by rfl) ?_
      refine g_iald dX9_inState_10 (by exact hw) (by omega) (show (1 : Int32) = nI 1 from rfl) (by decide) (by omega) ?_
      refine g_icmp_ge (tgt := 39) dX9_inState_11 (by decide) (fun c_11 => absurd c_11 (by rw [hc]; exact nI_ge (by omega) (by omega))) (fun _ => ?_)
      refine g_iload_n dX9_inState_14 rfl (by rfl) ?_
      refine g_aload_n dX9_inState_15 rfl (by rfl) ?_
      refine g_iload_n dX9_inState_16 rfl (by rfl) ?_
      refine g_iload_n dX9_inState_17 rfl (by rfl) ?_
      refine g_callV_e (c_X9_is hM hn k (by omega) st) dX9_inState_18 (mX9_is) rfl lX9_76 iX9_is vX9_is (by decide) (by omega) (by exact hm) rfl rfl rfl rfl (Nat.le_of_ble_eq_true rfl) ?_
      refine g_if_eq (tgt := 30) dX9_inState_21 (by decide) (fun c_21 => ?_) (fun c_21 => ?_)
      · have hne : ¬ (m_D w).1 3 k = st := fun z => by rw [if_pos z] at c_21; exact absurd c_21 (by decide)
        refine g_iconst 0 dX9_inState_30 (by rfl) ?_
        refine g_ior dX9_inState_31 ?_
        refine g_istore_n dX9_inState_32 rfl (by decide) ?_
        refine g_iinc (nI (k + 1)) dX9_inState_33 (by rfl) (nI_inc k) ?_
        refine g_goto (tgt := 4) dX9_inState_36 (by decide) ?_
        refine g_lv (ih (k + 1) (by omega)) ⟨rfl, rfl, ?_, rfl, trivial⟩
        show some _ = some _
        simp only [d_set]
        first | (rw [if_pos he]; done) | (rw [if_neg hne, Int32.or_zero])
      · have he : (m_D w).1 3 k = st := Classical.byContradiction fun z => c_21 (by rw [if_neg z])
        refine g_iconst 1 dX9_inState_24 (by rfl) ?_
        refine g_iload_n dX9_inState_25 rfl (by rfl) ?_
        refine g_ishl dX9_inState_26 ?_
        refine g_goto (tgt := 31) dX9_inState_27 (by decide) ?_
        refine g_ior dX9_inState_31 ?_
        refine g_istore_n dX9_inState_32 rfl (by decide) ?_
        refine g_iinc (nI (k + 1)) dX9_inState_33 (by rfl) (nI_inc k) ?_
        refine g_goto (tgt := 4) dX9_inState_36 (by decide) ?_
        refine g_lv (ih (k + 1) (by omega)) ⟨rfl, rfl, ?_, rfl, trivial⟩
        show some _ = some _
        simp only [d_set]
        first | (rw [if_pos he]; done) | (rw [if_neg hne, Int32.or_zero])
  refine s_Mt_of rfl (by decide) (by exact Nat.le_of_ble_eq_true rfl) ?_
  refine g_iconst 0 dX9_inState_0 (by rfl) ?_
  refine g_istore_n dX9_inState_1 rfl (by decide) ?_
  refine g_iconst 0 dX9_inState_2 (by rfl) ?_
  refine g_istore_n dX9_inState_3 rfl (by decide) ?_
  exact g_lv (loop cnt 0 (by omega)) ⟨rfl, rfl, rfl, rfl, trivial⟩

theorem c_X9_sizeOfSet {h : s_H} {n m : Nat} {I w : Nat → Int32} (hM : m_at h m I w) (hn : m + 21 ≤ n) {cnt : Nat} (hc : w 1 = nI cnt) (h14 : cnt ≤ 14) (set : Int32) : s_Mt TX9_sizeOfSet 0 0 [.ref m, .int set] h n (s_re (some (.int (d_tot ((m_D w).1 0) set cnt))) h n) := by
  have hm := hM.1
  have hw := hM.2
  have loop : ∀ (r k : Nat), k + r = cnt → s_G TX9_sizeOfSet (s_re (some (.int (d_tot ((m_D w).1 0) set cnt))) h n) 4 (s_lvs [(0, .ref m), (1, .int set), (2, .int (d_tot ((m_D w).1 0) set k)), (3, .int (nI k))]) [] h n 0 0 := by
    intro r
    induction r with
    | zero =>
      intro k hk
      obtain rfl : k = cnt := by omega
      refine g_iload_n dX9_sizeOfSet_4 rfl (by rfl) ?_
      refine g_aload_n dX9_sizeOfSet_5 rfl (by rfl) ?_
      refine g_getf dX9_sizeOfSet_6 fX9_9 (by exact hm) (by omega) (by rfl) ?_
      refine g_iconst 1 dX9_sizeOfSet_9 (by rfl) ?_
      refine g_iald dX9_sizeOfSet_10 (by exact hw) (by omega) (show (1 : Int32) = nI 1 from rfl) (by decide) (by omega) ?_
      refine g_icmp_ge (tgt := 41) dX9_sizeOfSet_11 (by decide) (fun _ => ?_) (fun c_11 => absurd (by rw [hc]; exact nI_le (Nat.le_refl _) (by omega)) c_11)
      refine g_iload_n dX9_sizeOfSet_41 rfl (by rfl) ?_
      refine g_ireturn dX9_sizeOfSet_42 rfl ?_
      exact ⟨rfl, rfl, rfl⟩
    | succ r ih =>
      intro k hk
      refine g_iload_n dX9_sizeOfSet_4 rfl (by rfl) ?_
      refine g_aload_n dX9_sizeOfSet_5 rfl (by rfl) ?_
      refine g_getf dX9_sizeOfSet_6 fX9_9 (by exact hm) (by omega) (by rfl) ?_
      refine g_iconst 1 dX9_sizeOfSet_9 (by rfl) ?_
      refine g_iald dX9_sizeOfSet_10 (by exact hw) (by omega) (show (1 : Int32) = nI 1 from rfl) (by decide) (by omega) ?_
      refine g_icmp_ge (tgt := 41) dX9_sizeOfSet_11 (by decide) (fun c_11 => absurd c_11 (by rw [hc]; exact nI_ge (by omega) (by omega))) (fun _ => ?_)
      refine g_iload_n dX9_sizeOfSet_14 rfl (by rfl) ?_
      refine g_iload_n dX9_sizeOfSet_15 rfl (by rfl) ?_
      refine g_iload_n dX9_sizeOfSet_16 rfl (by rfl) ?_
      refine g_callS_e (c_X9_has _ _) dX9_sizeOfSet_17 (mX9_has) rfl lX9_80 sX9_has (by decide) rfl rfl (Nat.le_of_ble_eq_true rfl) ?_
      refine g_if_eq (tgt := 32) dX9_sizeOfSet_20 (by decide) (fun c_20 => ?_) (fun c_20 => ?_)
      · have hz : s_bit set (nI k) = 0 := Classical.byContradiction fun z => by rw [if_neg z] at c_20; exact absurd c_20 (by decide)
        refine g_iconst 0 dX9_sizeOfSet_32 (by rfl) ?_
        refine g_iadd dX9_sizeOfSet_33 ?_
        refine g_istore_n dX9_sizeOfSet_34 rfl (by decide) ?_
        refine g_iinc (nI (k + 1)) dX9_sizeOfSet_35 (by rfl) (nI_inc k) ?_
        refine g_goto (tgt := 4) dX9_sizeOfSet_38 (by decide) ?_
        refine g_lv (ih (k + 1) (by omega)) ⟨rfl, rfl, ?_, rfl, trivial⟩
        show some _ = some _
        simp only [d_tot]
        first | (rw [if_neg hz]; done) | (rw [if_pos hz, Int32.add_zero])
      · have hz : ¬ s_bit set (nI k) = 0 := fun z => c_20 (by rw [if_pos z])
        refine g_aload_n dX9_sizeOfSet_23 rfl (by rfl) ?_
        refine g_iload_n dX9_sizeOfSet_24 rfl (by rfl) ?_
        refine g_iconst (nI 0) dX9_sizeOfSet_25 (by rfl) ?_
        refine g_callV_e (c_X9_of hM hn k 0 (by omega)) dX9_sizeOfSet_26 (mX9_of) rfl lX9_73 iX9_of vX9_of (by decide) (by omega) (by exact hm) rfl rfl rfl rfl (Nat.le_of_ble_eq_true rfl) ?_
        refine g_goto (tgt := 33) dX9_sizeOfSet_29 (by decide) ?_
        refine g_iadd dX9_sizeOfSet_33 ?_
        refine g_istore_n dX9_sizeOfSet_34 rfl (by decide) ?_
        refine g_iinc (nI (k + 1)) dX9_sizeOfSet_35 (by rfl) (nI_inc k) ?_
        refine g_goto (tgt := 4) dX9_sizeOfSet_38 (by decide) ?_
        refine g_lv (ih (k + 1) (by omega)) ⟨rfl, rfl, ?_, rfl, trivial⟩
        show some _ = some _
        simp only [d_tot]
        first | (rw [if_neg hz]; done) | (rw [if_pos hz, Int32.add_zero])
  refine s_Mt_of rfl (by decide) (by exact Nat.le_of_ble_eq_true rfl) ?_
  refine g_iconst 0 dX9_sizeOfSet_0 (by rfl) ?_
  refine g_istore_n dX9_sizeOfSet_1 rfl (by decide) ?_
  refine g_iconst 0 dX9_sizeOfSet_2 (by rfl) ?_
  refine g_istore_n dX9_sizeOfSet_3 rfl (by decide) ?_
  exact g_lv (loop cnt 0 (by omega)) ⟨rfl, rfl, rfl, rfl, trivial⟩

theorem c_X9_weightOfSet {h : s_H} {n m : Nat} {I w : Nat → Int32} (hM : m_at h m I w) (hn : m + 21 ≤ n) {cnt : Nat} (hc : w 1 = nI cnt) (h14 : cnt ≤ 14) (set : Int32) : s_Mt TX9_weightOfSet 0 0 [.ref m, .int set] h n (s_re (some (.int (d_tot (d_wt (m_D w)) set cnt))) h n) := by
  have hm := hM.1
  have hw := hM.2
  have loop : ∀ (r k : Nat), k + r = cnt → s_G TX9_weightOfSet (s_re (some (.int (d_tot (d_wt (m_D w)) set cnt))) h n) 4 (s_lvs [(0, .ref m), (1, .int set), (2, .int (d_tot (d_wt (m_D w)) set k)), (3, .int (nI k))]) [] h n 0 0 := by
    intro r
    induction r with
    | zero =>
      intro k hk
      obtain rfl : k = cnt := by omega
      refine g_iload_n dX9_weightOfSet_4 rfl (by rfl) ?_
      refine g_aload_n dX9_weightOfSet_5 rfl (by rfl) ?_
      refine g_getf dX9_weightOfSet_6 fX9_9 (by exact hm) (by omega) (by rfl) ?_
      refine g_iconst 1 dX9_weightOfSet_9 (by rfl) ?_
      refine g_iald dX9_weightOfSet_10 (by exact hw) (by omega) (show (1 : Int32) = nI 1 from rfl) (by decide) (by omega) ?_
      refine g_icmp_ge (tgt := 40) dX9_weightOfSet_11 (by decide) (fun _ => ?_) (fun c_11 => absurd (by rw [hc]; exact nI_le (Nat.le_refl _) (by omega)) c_11)
      refine g_iload_n dX9_weightOfSet_40 rfl (by rfl) ?_
      refine g_ireturn dX9_weightOfSet_41 rfl ?_
      exact ⟨rfl, rfl, rfl⟩
    | succ r ih =>
      intro k hk
      refine g_iload_n dX9_weightOfSet_4 rfl (by rfl) ?_
      refine g_aload_n dX9_weightOfSet_5 rfl (by rfl) ?_
      refine g_getf dX9_weightOfSet_6 fX9_9 (by exact hm) (by omega) (by rfl) ?_
      refine g_iconst 1 dX9_weightOfSet_9 (by rfl) ?_
      refine g_iald dX9_weightOfSet_10 (by exact hw) (by omega) (show (1 : Int32) = nI 1 from rfl) (by decide) (by omega) ?_
      refine g_icmp_ge (tgt := 40) dX9_weightOfSet_11 (by decide) (fun c_11 => absurd c_11 (by rw [hc]; exact nI_ge (by omega) (by omega))) (fun _ => ?_)
      refine g_iload_n dX9_weightOfSet_14 rfl (by rfl) ?_
      refine g_iload_n dX9_weightOfSet_15 rfl (by rfl) ?_
      refine g_iload_n dX9_weightOfSet_16 rfl (by rfl) ?_
      refine g_callS_e (c_X9_has _ _) dX9_weightOfSet_17 (mX9_has) rfl lX9_80 sX9_has (by decide) rfl rfl (Nat.le_of_ble_eq_true rfl) ?_
      refine g_if_eq (tgt := 31) dX9_weightOfSet_20 (by decide) (fun c_20 => ?_) (fun c_20 => ?_)
      · have hz : s_bit set (nI k) = 0 := Classical.byContradiction fun z => by rw [if_neg z] at c_20; exact absurd c_20 (by decide)
        refine g_iconst 0 dX9_weightOfSet_31 (by rfl) ?_
        refine g_iadd dX9_weightOfSet_32 ?_
        refine g_istore_n dX9_weightOfSet_33 rfl (by decide) ?_
        refine g_iinc (nI (k + 1)) dX9_weightOfSet_34 (by rfl) (nI_inc k) ?_
        refine g_goto (tgt := 4) dX9_weightOfSet_37 (by decide) ?_
        refine g_lv (ih (k + 1) (by omega)) ⟨rfl, rfl, ?_, rfl, trivial⟩
        show some _ = some _
        simp only [d_tot]
        first | (rw [if_neg hz]; done) | (rw [if_pos hz, Int32.add_zero])
      · have hz : ¬ s_bit set (nI k) = 0 := fun z => c_20 (by rw [if_pos z])
        refine g_aload_n dX9_weightOfSet_23 rfl (by rfl) ?_
        refine g_iload_n dX9_weightOfSet_24 rfl (by rfl) ?_
        refine g_callV_e (c_X9_weightOf hM hn k (by omega)) dX9_weightOfSet_25 (mX9_weightOf) rfl lX9_83 iX9_weightOf vX9_weightOf (by decide) (by omega) (by exact hm) rfl rfl rfl rfl (Nat.le_of_ble_eq_true rfl) ?_
        refine g_goto (tgt := 32) dX9_weightOfSet_28 (by decide) ?_
        refine g_iadd dX9_weightOfSet_32 ?_
        refine g_istore_n dX9_weightOfSet_33 rfl (by decide) ?_
        refine g_iinc (nI (k + 1)) dX9_weightOfSet_34 (by rfl) (nI_inc k) ?_
        refine g_goto (tgt := 4) dX9_weightOfSet_37 (by decide) ?_
        refine g_lv (ih (k + 1) (by omega)) ⟨rfl, rfl, ?_, rfl, trivial⟩
        show some _ = some _
        simp only [d_tot]
        first | (rw [if_neg hz]; done) | (rw [if_pos hz, Int32.add_zero])
  refine s_Mt_of rfl (by decide) (by exact Nat.le_of_ble_eq_true rfl) ?_
  refine g_iconst 0 dX9_weightOfSet_0 (by rfl) ?_
  refine g_istore_n dX9_weightOfSet_1 rfl (by decide) ?_
  refine g_iconst 0 dX9_weightOfSet_2 (by rfl) ?_
  refine g_istore_n dX9_weightOfSet_3 rfl (by decide) ?_
  exact g_lv (loop cnt 0 (by omega)) ⟨rfl, rfl, rfl, rfl, trivial⟩

theorem c_X9_roomFor {h : s_H} {n m : Nat} {I w : Nat → Int32} (hM : m_at h m I w) (hn : m + 21 ≤ n) {cnt : Nat} (hc : w 1 = nI cnt) (h14 : cnt ≤ 14) (x : Int32) : s_Mt TX9_roomFor 0 0 [.ref m, .int x] h n (s_re (some (.int (x - d_tot ((m_D w).1 0) (d_set (m_D w) 1 cnt) cnt))) h n) := by
  have hm := hM.1
  have hw := hM.2
  refine s_Mt_of rfl (by decide) (by exact Nat.le_of_ble_eq_true rfl) ?_
  refine g_iload_n dX9_roomFor_0 rfl (by rfl) ?_
  refine g_aload_n dX9_roomFor_1 rfl (by rfl) ?_
  refine g_aload_n dX9_roomFor_2 rfl (by rfl) ?_
  refine g_iconst 1 dX9_roomFor_3 (by rfl) ?_
  refine g_callV_e (c_X9_inState hM hn hc h14 1) dX9_roomFor_4 (mX9_inState) rfl lX9_93 iX9_inState vX9_inState (by decide) (by omega) (by exact hm) rfl rfl rfl rfl (Nat.le_of_ble_eq_true rfl) ?_
  refine g_callV_e (c_X9_sizeOfSet hM hn hc h14 _) dX9_roomFor_7 (mX9_sizeOfSet) rfl lX9_96 iX9_sizeOfSet vX9_sizeOfSet (by decide) (by omega) (by exact hm) rfl rfl rfl rfl (Nat.le_of_ble_eq_true rfl) ?_
  refine g_isub dX9_roomFor_10 ?_
  refine g_ireturn dX9_roomFor_11 rfl ?_
  exact ⟨rfl, rfl, rfl⟩

theorem c_X9_outside {h : s_H} {n m : Nat} {I w : Nat → Int32} (hM : m_at h m I w) (hn : m + 21 ≤ n) (x lo hi cd : Int32) : s_Mt TX9_outside 0 0 [.ref m, .int x, .int lo, .int hi, .int cd] h n (s_rp n (fun v9 h1 => v9 = some (.int (if x < lo ∨ hi < x then 1 else 0)) ∧ m_at h1 m (if x < lo ∨ hi < x then upd I 0 cd else I) w ∧ s_off h h1 m (m + 1)) s_no) := by
  have hm := hM.1
  have hw := hM.2
  refine s_Mt_of rfl (by decide) (by exact Nat.le_of_ble_eq_true rfl) ?_
  refine g_iload_n dX9_outside_0 rfl (by rfl) ?_
  refine g_iload_n dX9_outside_1 rfl (by rfl) ?_
  refine g_icmp_lt (tgt := 10) dX9_outside_2 (by decide) (fun c_2 => ?_) (fun c_2 => ?_)
  · have hb : x < lo ∨ hi < x := Or.inl c_2
    refine g_aload_n dX9_outside_10 rfl (by rfl) ?_
    refine g_iload dX9_outside_11 (by rfl) ?_
    refine g_putf' dX9_outside_13 pX9_59 (by exact hm) (by omega) (by exact Nat.le_of_ble_eq_true rfl) (by rfl) (by rfl) (fun h1 e1 => ?_)
    first | have hm_1 := s_up_off e1 (by omega) hm | have hm_1 := s_up_at e1
    first | have hw_1 := s_up_off e1 (by omega) hw | have hw_1 := s_up_at e1
    refine g_iconst 1 dX9_outside_16 (by rfl) ?_
    refine g_zreturn dX9_outside_17 rfl (by decide) ?_
    exact ⟨rfl, by rw [if_pos hb], by rw [if_pos hb]; exact ⟨hm_1, hw_1⟩, ((s_off.rf (a := m) (b := (m + 1))).up e1 (by omega))⟩
  · refine g_iload_n dX9_outside_5 rfl (by rfl) ?_
    refine g_iload_n dX9_outside_6 rfl (by rfl) ?_
    refine g_icmp_le (tgt := 18) dX9_outside_7 (by decide) (fun c_7 => ?_) (fun c_7 => ?_)
    · have hb : ¬ (x < lo ∨ hi < x) := fun z => z.elim c_2 (fun z => Int32.not_le.mpr z c_7)
      refine g_iconst 0 dX9_outside_18 (by rfl) ?_
      refine g_zreturn dX9_outside_19 rfl (by decide) ?_
      exact ⟨rfl, by rw [if_neg hb], by rw [if_neg hb]; exact ⟨hm, hw⟩, s_off.rf⟩
    · have hb : x < lo ∨ hi < x := Or.inr (Int32.not_le.mp c_7)
      refine g_aload_n dX9_outside_10 rfl (by rfl) ?_
      refine g_iload dX9_outside_11 (by rfl) ?_
      refine g_putf' dX9_outside_13 pX9_59 (by exact hm) (by omega) (by exact Nat.le_of_ble_eq_true rfl) (by rfl) (by rfl) (fun h2 e2 => ?_)
      first | have hm_2 := s_up_off e2 (by omega) hm | have hm_2 := s_up_at e2
      first | have hw_2 := s_up_off e2 (by omega) hw | have hw_2 := s_up_at e2
      refine g_iconst 1 dX9_outside_16 (by rfl) ?_
      refine g_zreturn dX9_outside_17 rfl (by decide) ?_
      exact ⟨rfl, by rw [if_pos hb], by rw [if_pos hb]; exact ⟨hm_2, hw_2⟩, ((s_off.rf (a := m) (b := (m + 1))).up e2 (by omega))⟩

theorem c_X9_raise {h : s_H} {n m : Nat} {I w : Nat → Int32} (hM : m_at h m I w) (hn : m + 21 ≤ n) (x cd : Int32) (hx : x = 0 ∨ x = 1) : s_Mt TX9_raise 0 0 [.ref m, .int x, .int cd] h n (s_rp n (fun v9 h1 => v9 = some (.int x) ∧ m_at h1 m (if x = 0 then I else upd I 0 cd) w ∧ s_off h h1 m (m + 1)) s_no) := by
  have hm := hM.1
  have hw := hM.2
  refine s_Mt_of rfl (by decide) (by exact Nat.le_of_ble_eq_true rfl) ?_
  refine g_iload_n dX9_raise_0 rfl (by rfl) ?_
  refine g_if_eq (tgt := 9) dX9_raise_1 (by decide) (fun c_1 => ?_) (fun c_1 => ?_)
  · have hb : x = 0 := c_1
    refine g_iload_n dX9_raise_9 rfl (by rfl) ?_
    refine g_zreturn dX9_raise_10 rfl hx ?_
    first | exact ⟨rfl, rfl, by rw [if_pos hb]; exact ⟨hm, hw⟩, s_off.rf⟩ | exact ⟨rfl, rfl, by rw [if_neg hb]; exact ⟨hm, hw⟩, (s_off.rf (a := m) (b := (m + 1)))⟩
  · have hb : ¬ x = 0 := c_1
    refine g_aload_n dX9_raise_4 rfl (by rfl) ?_
    refine g_iload_n dX9_raise_5 rfl (by rfl) ?_
    refine g_putf' dX9_raise_6 pX9_59 (by exact hm) (by omega) (by exact Nat.le_of_ble_eq_true rfl) (by rfl) (by rfl) (fun h1 e1 => ?_)
    first | have hm_1 := s_up_off e1 (by omega) hm | have hm_1 := s_up_at e1
    first | have hw_1 := s_up_off e1 (by omega) hw | have hw_1 := s_up_at e1
    refine g_iload_n dX9_raise_9 rfl (by rfl) ?_
    refine g_zreturn dX9_raise_10 rfl hx ?_
    first | exact ⟨rfl, rfl, by rw [if_pos hb]; exact ⟨hm, hw⟩, s_off.rf⟩ | exact ⟨rfl, rfl, by rw [if_neg hb]; exact ⟨hm_1, hw_1⟩, ((s_off.rf (a := m) (b := (m + 1))).up e1 (by omega))⟩

theorem m_in {x : Int32} {cnt : Nat} (h14 : cnt ≤ 14) : (x < 0 ∨ nI cnt - 1 < x) ↔ ¬ (¬ x < 0 ∧ x < nI cnt) := by
  rw [not_and]
  by_cases hx : x < 0
  · simp [hx]
  · obtain ⟨k, hk, rfl⟩ := nI_of hx
    have key : nI cnt - 1 < nI k ↔ ¬ nI k < nI cnt := by
      cases cnt with
      | zero =>
        have e : (nI 0 - 1 : Int32) = -1 := by decide
        rw [e]
        constructor
        · intro _ z
          have := Int32.lt_iff_toInt_lt.mp z
          rw [nI_ti hk, nI_ti (by omega)] at this
          omega
        · intro _
          rw [Int32.lt_iff_toInt_lt, nI_ti hk]
          have : (-1 : Int32).toInt = -1 := by decide
          omega
      | succ c =>
        rw [nI_pred, Int32.lt_iff_toInt_lt, Int32.lt_iff_toInt_lt, nI_ti hk, nI_ti (by omega), nI_ti (by omega)]
        omega
    rw [key]
    constructor
    · rintro (z | z)
      · exact absurd z hx
      · exact fun _ => z
    · exact fun z => Or.inr (z hx)

theorem c_X9_noItem {h : s_H} {n m : Nat} {I w : Nat → Int32} (hM : m_at h m I w) (hn : m + 21 ≤ n) {cnt : Nat} (hc : w 1 = nI cnt) (h14 : cnt ≤ 14) (x : Int32) : s_Mt TX9_noItem 0 0 [.ref m, .int x] h n (s_rp n (fun v9 h1 => v9 = some (.int (if ¬ x < 0 ∧ x < nI cnt then 0 else 1)) ∧ m_at h1 m (if ¬ x < 0 ∧ x < nI cnt then I else upd I 0 1) w ∧ s_off h h1 m (m + 1)) s_no) := by
  have hm := hM.1
  have hw := hM.2
  refine s_Mt_of rfl (by decide) (by exact Nat.le_of_ble_eq_true rfl) ?_
  refine g_aload_n dX9_noItem_0 rfl (by rfl) ?_
  refine g_iload_n dX9_noItem_1 rfl (by rfl) ?_
  refine g_iconst 0 dX9_noItem_2 (by rfl) ?_
  refine g_aload_n dX9_noItem_3 rfl (by rfl) ?_
  refine g_getf dX9_noItem_4 fX9_9 (by exact hm) (by omega) (by rfl) ?_
  refine g_iconst 1 dX9_noItem_7 (by rfl) ?_
  refine g_iald dX9_noItem_8 (by exact hw) (by omega) (show (1 : Int32) = nI 1 from rfl) (by decide) (by omega) ?_
  rw [show w 1 = nI cnt from hc]
  refine g_iconst 1 dX9_noItem_9 (by rfl) ?_
  refine g_isub dX9_noItem_10 ?_
  refine g_iconst 1 dX9_noItem_11 (by rfl) ?_
  refine g_callV_p (c_X9_outside hM hn x 0 (nI cnt - 1) 1) dX9_noItem_12 (mX9_outside) rfl lX9_69 iX9_outside vX9_outside (by decide) (by omega) (by exact hm) rfl rfl rfl rfl (Nat.le_of_ble_eq_true rfl) (fun v9 h9 z9 => ?_)
  obtain ⟨rfl, hM, hoff⟩ := z9
  refine g_zreturn dX9_noItem_15 rfl (by split <;> first | exact Or.inl rfl | exact Or.inr rfl) ?_
  by_cases hin : ¬ x < 0 ∧ x < nI cnt
  · rw [if_pos hin]
    rw [if_neg (fun z => (m_in h14).mp z hin)] at hM ⊢
    exact ⟨rfl, rfl, by rw [if_pos hin]; exact hM, hoff⟩
  · rw [if_neg hin]
    rw [if_pos ((m_in h14).mpr hin)] at hM ⊢
    exact ⟨rfl, rfl, by rw [if_neg hin]; exact hM, hoff⟩

def m_cp (f g : Nat → Int32) (k : Nat) : Nat → Int32 := fun j => if j < k then f j else g j
theorem m_cp_s {f g : Nat → Int32} {k : Nat} : upd (m_cp f g k) k (f k) = m_cp f g (k + 1) := by
  funext j
  simp only [upd, m_cp]
  by_cases e : j = k
  · subst e; rw [if_pos rfl, if_pos (by omega)]
  · rw [if_neg e]
    by_cases e2 : j < k
    · rw [if_pos e2, if_pos (by omega)]
    · rw [if_neg e2, if_neg (by omega)]
theorem m_cp_0 {f g : Nat → Int32} : m_cp f g 0 = g := funext fun j => if_neg (Nat.not_lt_zero j)

theorem c_X9_copy {h : s_H} {n a b : Nat} {f g0 : Nat → Int32} (ha : h a = .inl (0, 61, .inl f)) (hb : h b = .inl (0, 61, .inl g0)) (hna : a < n) (hnb : b < n) (hab : a ≠ b) : s_Mt TX9_copy 0 0 [.ref a, .ref b] h n (s_rp n (fun v9 h1 => v9 = none ∧ (∃ g, h1 b = .inl (0, 61, .inl g) ∧ ∀ j, j < 61 → g j = f j) ∧ s_off h h1 b (b + 1)) s_no) := by
  have loop : ∀ (r k : Nat) (h' : s_H), k + r = 61 → h' a = .inl (0, 61, .inl f) → h' b = .inl (0, 61, .inl (m_cp f g0 k)) → s_off h h' b (b + 1) → s_G TX9_copy (s_rp n (fun v9 h1 => v9 = none ∧ (∃ g, h1 b = .inl (0, 61, .inl g) ∧ ∀ j, j < 61 → g j = f j) ∧ s_off h h1 b (b + 1)) s_no) 2 (s_lvs [(0, .ref a), (1, .ref b), (2, .int (nI k))]) [] h' n 0 0 := by
    intro r
    induction r with
    | zero =>
      intro k h' hk ha hb hoff
      obtain rfl : k = 61 := by omega
      refine g_iload_n dX9_copy_2 rfl (by rfl) ?_
      refine g_bipush 61 dX9_copy_3 (by rfl) ?_
      refine g_icmp_ge (tgt := 20) dX9_copy_5 (by decide) (fun _ => ?_) (fun c_5 => absurd (show nI 61 ≤ nI 61 from nI_le (Nat.le_refl _) (by omega)) c_5)
      refine g_vreturn dX9_copy_20 rfl ?_
      exact ⟨rfl, rfl, ⟨_, hb, fun j hj => by simp only [m_cp]; rw [if_pos hj]⟩, hoff⟩
    | succ r ih =>
      intro k h' hk ha hb hoff
      refine g_iload_n dX9_copy_2 rfl (by rfl) ?_
      refine g_bipush 61 dX9_copy_3 (by rfl) ?_
      refine g_icmp_ge (tgt := 20) dX9_copy_5 (by decide) (fun c_5 => absurd c_5 (show ¬ nI 61 ≤ nI k from nI_ge (by omega) (by omega))) (fun _ => ?_)
      refine g_aload_n dX9_copy_8 rfl (by rfl) ?_
      refine g_iload_n dX9_copy_9 rfl (by rfl) ?_
      refine g_aload_n dX9_copy_10 rfl (by rfl) ?_
      refine g_iload_n dX9_copy_11 rfl (by rfl) ?_
      refine g_iald dX9_copy_12 (by exact ha) (by omega) (by rfl) (by omega) (by omega) ?_
      refine g_iast' dX9_copy_13 (by exact hb) (by omega) (by rfl) (by omega) (by omega) (fun h1 e1 => ?_)
      first | have ha_1 := s_up_off e1 (by omega) ha | have ha_1 := s_up_at e1
      first | have hb_1 := s_up_off e1 (by omega) hb | have hb_1 := s_up_at e1
      refine g_iinc (nI (k + 1)) dX9_copy_14 (by rfl) (nI_inc k) ?_
      refine g_goto (tgt := 2) dX9_copy_17 (by decide) ?_
      exact g_lv (ih (k + 1) h1 (by omega) (s_up_off e1 (by omega) ha) (by rw [s_up_at e1, m_cp_s]) (hoff.up e1 (by omega))) ⟨rfl, rfl, rfl, trivial⟩
  refine s_Mt_of rfl (by decide) (by exact Nat.le_of_ble_eq_true rfl) ?_
  refine g_iconst 0 dX9_copy_0 (by rfl) ?_
  refine g_istore_n dX9_copy_1 rfl (by decide) ?_
  exact g_lv (loop 61 0 h (by omega) ha (by rw [hb, m_cp_0]) s_off.rf) ⟨rfl, rfl, rfl, trivial⟩
