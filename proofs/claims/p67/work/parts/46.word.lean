/-! THE SCRIPT: words, numbers -/
def x_mt (tx : Nat → Int32) (t i : Nat) : Nat → Nat → Bool
  | 0, _ => true
  | r + 1, j => if tx (t + j) = k_b i j then x_mt tx t i r (j + 1) else false
/-- the token is the text i -/
def x_is (tx : Nat → Int32) (q : Nat) (tk : Int32) (t i : Nat) : Bool := decide (tk = 1) && decide (q - t = s_len.getD i 0) && x_mt tx t i (s_len.getD i 0) 0
theorem x_is_no1 {tx : Nat → Int32} {q t i : Nat} {tk : Int32} (h : ¬ tk = 1) : x_is tx q tk t i = false := by simp [x_is, h]
theorem x_is_no2 {tx : Nat → Int32} {q t i : Nat} {tk : Int32} (h : ¬ q - t = s_len.getD i 0) : x_is tx q tk t i = false := by
  unfold x_is
  rw [decide_eq_false h]
  simp
theorem x_is_mt {tx : Nat → Int32} {q t i : Nat} {tk : Int32} (h1 : tk = 1) (h2 : q - t = s_len.getD i 0) : x_is tx q tk t i = x_mt tx t i (s_len.getD i 0) 0 := by
  unfold x_is
  rw [decide_eq_true h1, decide_eq_true h2]
  rfl
def x_bi (b : Bool) : Int32 := if b then 1 else 0
/-- a number's digits -/
def x_nm (tx : Nat → Int32) : Nat → Nat → Int32 → Int32
  | 0, _, a => a
  | r + 1, p, a => x_nm tx r (p + 1) (a * 10 + tx p - 48)
/-- a number within bounds: its value (or -1) and the error's kind (0: none) -/
def x_rd (tx : Nat → Int32) (len q : Nat) (lo hi : Int32) : Int32 × Int32 :=
  if (x_tok tx len q).2.1 = 2 then (if x_nm tx ((x_tok tx len q).1 - (x_tok tx len q).2.2) (x_tok tx len q).2.2 0 < lo ∨ hi < x_nm tx ((x_tok tx len q).1 - (x_tok tx len q).2.2) (x_tok tx len q).2.2 0 then (-1, 2) else (x_nm tx ((x_tok tx len q).1 - (x_tok tx len q).2.2) (x_tok tx len q).2.2 0, 0)) else (-1, 1)

theorem c_X6_isWord {h : s_H} {n s len q t i : Nat} {tx : Nat → Int32} {ek eo tk ex : Int32} (hsc : s_sc h s tx len ek eo (nI q) tk (nI t) ex) (hn : s + 1 < n) (htq : t ≤ q) (hq : q ≤ 500) (hi : i < 14) : s_Mt TX6_isWord 0 0 [.ref s, .ref (s_big + i)] h n (s_re (some (.int (x_bi (x_is tx q tk t i)))) h n) := by
  obtain ⟨hs, hx⟩ := hsc
  have hl9 := k_len i hi
  have loop : ∀ (r j : Nat), j + r = s_len.getD i 0 → x_is tx q tk t i = x_mt tx t i r j → q - t = s_len.getD i 0 → s_G TX6_isWord (s_re (some (.int (x_bi (x_is tx q tk t i)))) h n) 28 (s_lvs [(0, .ref s), (1, .ref (s_big + i)), (2, .int (nI j))]) [] h n 0 0 := by
    intro r
    induction r with
    | zero =>
      intro j hj hm hqt
      refine g_iload_n dX6_isWord_28 rfl (by rfl) ?_
      refine g_aload_n dX6_isWord_29 rfl (by rfl) ?_
      refine g_callT (c_length hi) hi dX6_isWord_30 mJ0_length_8abf5 rfl rfl lX6_164 iJ0_length_8abf5 vJ0_length_8abf5 (by decide) rfl rfl (Nat.le_of_ble_eq_true rfl) ?_
      refine g_icmp_ge (tgt := 63) dX6_isWord_33 (by decide) (fun _ => ?_) (fun c_33 => absurd (nI_le (by omega) (by omega)) c_33)
      refine g_iconst 1 dX6_isWord_63 (by rfl) ?_
      refine g_zreturn dX6_isWord_64 rfl (by decide) ?_
      exact ⟨by rw [hm]; rfl, rfl, rfl⟩
    | succ r ih =>
      intro j hj hm hqt
      have ih := fun j hj hm => ih j hj hm hqt
      refine g_iload_n dX6_isWord_28 rfl (by rfl) ?_
      refine g_aload_n dX6_isWord_29 rfl (by rfl) ?_
      refine g_callT (c_length hi) hi dX6_isWord_30 mJ0_length_8abf5 rfl rfl lX6_164 iJ0_length_8abf5 vJ0_length_8abf5 (by decide) rfl rfl (Nat.le_of_ble_eq_true rfl) ?_
      refine g_icmp_ge (tgt := 63) dX6_isWord_33 (by decide) (fun c_33 => absurd c_33 (nI_ge (by omega) (by omega))) (fun _ => ?_)
      refine g_aload_n dX6_isWord_36 rfl (by rfl) ?_
      refine g_getf dX6_isWord_37 fX6_9 (by exact hs) (by omega) (by rfl) ?_
      refine g_aload_n dX6_isWord_40 rfl (by rfl) ?_
      refine g_getf dX6_isWord_41 fX6_31 (by exact hs) (by omega) (by rfl) ?_
      refine g_iload_n dX6_isWord_44 rfl (by rfl) ?_
      refine g_iadd dX6_isWord_45 ?_
      rw [nI_add]
      refine g_bald dX6_isWord_46 (by exact hx) (by omega) (by rfl) (by omega) (by omega) ?_
      refine g_aload_n dX6_isWord_47 rfl (by rfl) ?_
      refine g_iload_n dX6_isWord_48 rfl (by rfl) ?_
      refine g_callT (c_charAt hi (j := j) (by omega)) hi dX6_isWord_49 mJ0_charAt_5068e rfl rfl lX6_168 iJ0_charAt_5068e vJ0_charAt_5068e (by decide) rfl rfl (Nat.le_of_ble_eq_true rfl) ?_
      refine g_icmp_eq (tgt := 57) dX6_isWord_52 (by decide) (fun c_52 => ?_) (fun c_52 => ?_)
      · refine g_iinc (nI (j + 1)) dX6_isWord_57 (by rfl) (nI_inc j) ?_
        refine g_goto (tgt := 28) dX6_isWord_60 (by decide) ?_
        exact g_lv (ih (j + 1) (by omega) (by rw [hm]; simp only [x_mt]; rw [if_pos c_52])) ⟨rfl, rfl, rfl, trivial⟩
      · refine g_iconst 0 dX6_isWord_55 (by rfl) ?_
        refine g_zreturn dX6_isWord_56 rfl (by decide) ?_
        exact ⟨by rw [hm]; simp only [x_mt]; rw [if_neg c_52]; rfl, rfl, rfl⟩
  refine s_Mt_of rfl (by decide) (by exact Nat.le_of_ble_eq_true rfl) ?_
  refine g_aload_n dX6_isWord_0 rfl (by rfl) ?_
  refine g_getf dX6_isWord_1 fX6_28 (by exact hs) (by omega) (by rfl) ?_
  refine g_iconst 1 dX6_isWord_4 (by rfl) ?_
  refine g_icmp_ne (tgt := 24) dX6_isWord_5 (by decide) (fun c_5 => ?_) (fun c_5 => ?_)
  · have hno : x_is tx q tk t i = false := x_is_no1 c_5
    refine g_iconst 0 dX6_isWord_24 (by rfl) ?_
    refine g_zreturn dX6_isWord_25 rfl (by decide) ?_
    exact ⟨by rw [hno]; rfl, rfl, rfl⟩
  · refine g_aload_n dX6_isWord_8 rfl (by rfl) ?_
    refine g_getf dX6_isWord_9 fX6_25 (by exact hs) (by omega) (by rfl) ?_
    refine g_aload_n dX6_isWord_12 rfl (by rfl) ?_
    refine g_getf dX6_isWord_13 fX6_31 (by exact hs) (by omega) (by rfl) ?_
    refine g_isub dX6_isWord_16 ?_
    rw [show (nI q - nI t : Int32) = nI (q - t) from nI_sble htq]
    refine g_aload_n dX6_isWord_17 rfl (by rfl) ?_
    refine g_callT (c_length hi) hi dX6_isWord_18 mJ0_length_8abf5 rfl rfl lX6_164 iJ0_length_8abf5 vJ0_length_8abf5 (by decide) rfl rfl (Nat.le_of_ble_eq_true rfl) ?_
    refine g_icmp_eq (tgt := 26) dX6_isWord_21 (by decide) (fun c_21 => ?_) (fun c_21 => ?_)
    · have hqt : q - t = s_len.getD i 0 := nI_inj (by omega) (by omega) c_21
      refine g_iconst 0 dX6_isWord_26 (by rfl) ?_
      refine g_istore_n dX6_isWord_27 rfl (by decide) ?_
      exact g_lv (loop (s_len.getD i 0) 0 (by omega) (x_is_mt c_5 hqt) hqt) ⟨rfl, rfl, rfl, trivial⟩
    · have hno : x_is tx q tk t i = false := x_is_no2 (fun z => c_21 (by rw [z]))
      refine g_iconst 0 dX6_isWord_24 (by rfl) ?_
      refine g_zreturn dX6_isWord_25 rfl (by decide) ?_
      exact ⟨by rw [hno]; rfl, rfl, rfl⟩

theorem c_X6_expect {h : s_H} {n s len q : Nat} {tx : Nat → Int32} {ek eo tk ts ex : Int32} (hsc : s_sc h s tx len ek eo (nI q) tk ts ex) (hn : s + 1 < n) (hq : q ≤ len) (hl : len ≤ 500) (kd : Int32) : s_Mt TX6_expect 0 0 [.ref s, .int kd] h n (s_rp n (fun v9 h1 => v9 = some (.int (if (x_tok tx len q).2.1 = kd then 1 else 0)) ∧ s_sc h1 s tx len (if (x_tok tx len q).2.1 = kd then ek else 1) (if (x_tok tx len q).2.1 = kd then eo else nI (x_tok tx len q).2.2) (nI (x_tok tx len q).1) (x_tok tx len q).2.1 (nI (x_tok tx len q).2.2) ex ∧ s_off h h1 s (s + 2)) s_no) := by
  have hs := hsc.1
  have hx := hsc.2
  refine s_Mt_of rfl (by decide) (by exact Nat.le_of_ble_eq_true rfl) ?_
  refine g_aload_n dX6_expect_0 rfl (by rfl) ?_
  refine g_callV_p (c_X6_readToken hsc hn hq hl) dX6_expect_1 (mX6_readToken) rfl lX6_37 iX6_readToken vX6_readToken (by decide) (by omega) (by exact hs) rfl rfl rfl rfl (Nat.le_of_ble_eq_true rfl) (fun v9 h9 z9 => ?_)
  obtain ⟨rfl, hsc, hoff⟩ := z9
  have hs := hsc.1
  have hx := hsc.2
  obtain ⟨hte, hel, -⟩ := x_tok_le (tx := tx) hq
  refine g_aload_n dX6_expect_4 rfl (by rfl) ?_
  refine g_getf dX6_expect_5 fX6_28 (by exact hs) (by omega) (by rfl) ?_
  refine g_iload_n dX6_expect_8 rfl (by rfl) ?_
  refine g_icmp_eq (tgt := 20) dX6_expect_9 (by decide) (fun c_9 => ?_) (fun c_9 => ?_)
  · have hc : (x_tok tx len q).2.1 = kd := c_9
    refine g_iconst 1 dX6_expect_20 (by rfl) ?_
    refine g_goto (tgt := 25) dX6_expect_21 (by decide) ?_
    refine g_zreturn dX6_expect_25 rfl (by decide) ?_
    first | exact ⟨rfl, by rw [if_pos hc], by rw [if_pos hc, if_pos hc]; exact hsc, hoff⟩ | exact ⟨rfl, by rw [if_neg hc], by rw [if_neg hc, if_neg hc]; exact hsc, hoff⟩
  · have hc : ¬ (x_tok tx len q).2.1 = kd := c_9
    refine g_aload_n dX6_expect_12 rfl (by rfl) ?_
    refine g_iconst 1 dX6_expect_13 (by rfl) ?_
    refine g_callV_p (c_X6_fail hsc hn _) dX6_expect_14 (mX6_fail) rfl lX6_46 iX6_fail vX6_fail (by decide) (by omega) (by exact hs) rfl rfl rfl rfl (Nat.le_of_ble_eq_true rfl) (fun v9 h9 z9 => ?_)
    obtain ⟨rfl, hsc, hoff2⟩ := z9
    have hoff := hoff.trans hoff2
    have hs := hsc.1
    have hx := hsc.2
    refine g_if_eq (tgt := 24) dX6_expect_17 (by decide) (fun _ => ?_) (fun c_17 => absurd rfl c_17)
    refine g_iconst 0 dX6_expect_24 (by rfl) ?_
    refine g_zreturn dX6_expect_25 rfl (by decide) ?_
    first | exact ⟨rfl, by rw [if_pos hc], by rw [if_pos hc, if_pos hc]; exact hsc, hoff⟩ | exact ⟨rfl, by rw [if_neg hc], by rw [if_neg hc, if_neg hc]; exact hsc, hoff⟩

theorem c_X6_readNumber {h : s_H} {n s len q : Nat} {tx : Nat → Int32} {ek eo tk ts ex : Int32} (hsc : s_sc h s tx len ek eo (nI q) tk ts ex) (hn : s + 1 < n) (hq : q ≤ len) (hl : len ≤ 500) (lo hi : Int32) : s_Mt TX6_readNumber 0 0 [.ref s, .int lo, .int hi] h n (s_rp n (fun v9 h1 => v9 = some (.int (x_rd tx len q lo hi).1) ∧ s_sc h1 s tx len (if (x_rd tx len q lo hi).2 = 0 then ek else (x_rd tx len q lo hi).2) (if (x_rd tx len q lo hi).2 = 0 then eo else nI (x_tok tx len q).2.2) (nI (x_tok tx len q).1) (x_tok tx len q).2.1 (nI (x_tok tx len q).2.2) ex ∧ s_off h h1 s (s + 2)) s_no) := by
  have hs := hsc.1
  have hx := hsc.2
  refine s_Mt_of rfl (by decide) (by exact Nat.le_of_ble_eq_true rfl) ?_
  refine g_aload_n dX6_readNumber_0 rfl (by rfl) ?_
  refine g_callV_p (c_X6_readToken hsc hn hq hl) dX6_readNumber_1 (mX6_readToken) rfl lX6_37 iX6_readToken vX6_readToken (by decide) (by omega) (by exact hs) rfl rfl rfl rfl (Nat.le_of_ble_eq_true rfl) (fun v9 h9 z9 => ?_)
  obtain ⟨rfl, hsc, hoff⟩ := z9
  have hs := hsc.1
  have hx := hsc.2
  obtain ⟨hte, hel, -⟩ := x_tok_le (tx := tx) hq
  refine g_aload_n dX6_readNumber_4 rfl (by rfl) ?_
  refine g_getf dX6_readNumber_5 fX6_28 (by exact hs) (by omega) (by rfl) ?_
  refine g_iconst 2 dX6_readNumber_8 (by rfl) ?_
  refine g_icmp_eq (tgt := 20) dX6_readNumber_9 (by decide) (fun c_9 => ?_) (fun c_9 => ?_)
  · have hk2 : (x_tok tx len q).2.1 = 2 := c_9
    refine g_iconst 0 dX6_readNumber_20 (by rfl) ?_
    refine g_istore_n dX6_readNumber_21 rfl (by decide) ?_
    refine g_aload_n dX6_readNumber_22 rfl (by rfl) ?_
    refine g_getf dX6_readNumber_23 fX6_31 (by exact hs) (by omega) (by rfl) ?_
    refine g_istore dX6_readNumber_26 (by decide) ?_
    have loop : ∀ (r p : Nat) (a : Int32), p + r = (x_tok tx len q).1 → x_nm tx r p a = (x_nm tx ((x_tok tx len q).1 - (x_tok tx len q).2.2) (x_tok tx len q).2.2 0) → s_G TX6_readNumber (s_rp n (fun v9 h1 => v9 = some (.int (x_rd tx len q lo hi).1) ∧ s_sc h1 s tx len (if (x_rd tx len q lo hi).2 = 0 then ek else (x_rd tx len q lo hi).2) (if (x_rd tx len q lo hi).2 = 0 then eo else nI (x_tok tx len q).2.2) (nI (x_tok tx len q).1) (x_tok tx len q).2.1 (nI (x_tok tx len q).2.2) ex ∧ s_off h h1 s (s + 2)) s_no) 28 (s_lvs [(0, .ref s), (1, .int lo), (2, .int hi), (3, .int a), (4, .int (nI p))]) [] h9 n 0 0 := by
      intro r
      induction r with
      | zero =>
        intro p a hp ha
        have ha : a = (x_nm tx ((x_tok tx len q).1 - (x_tok tx len q).2.2) (x_tok tx len q).2.2 0) := ha
        subst ha
        obtain rfl : p = (x_tok tx len q).1 := by omega
        refine g_iload dX6_readNumber_28 (by rfl) ?_
        refine g_aload_n dX6_readNumber_30 rfl (by rfl) ?_
        refine g_getf dX6_readNumber_31 fX6_25 (by exact hs) (by omega) (by rfl) ?_
        refine g_icmp_ge (tgt := 59) dX6_readNumber_34 (by decide) (fun _ => ?_) (fun c_34 => absurd (nI_le (by omega) (by omega)) c_34)
        refine g_iload_n dX6_readNumber_59 rfl (by rfl) ?_
        refine g_iload_n dX6_readNumber_60 rfl (by rfl) ?_
        refine g_icmp_lt (tgt := 69) dX6_readNumber_61 (by decide) (fun c_61 => ?_) (fun c_61 => ?_)
        · have hb : (x_rd tx len q lo hi) = (-1, 2) := by unfold x_rd; rw [if_pos hk2, if_pos (Or.inl c_61)]
          refine g_aload_n dX6_readNumber_69 rfl (by rfl) ?_
          refine g_iconst 2 dX6_readNumber_70 (by rfl) ?_
          refine g_callV_p (c_X6_fail hsc hn _) dX6_readNumber_71 (mX6_fail) rfl lX6_46 iX6_fail vX6_fail (by decide) (by omega) (by exact hs) rfl rfl rfl rfl (Nat.le_of_ble_eq_true rfl) (fun v9 h9 z9 => ?_)
          obtain ⟨rfl, hsc, hoff2⟩ := z9
          have hoff := hoff.trans hoff2
          have hs := hsc.1
          have hx := hsc.2
          refine g_pop dX6_readNumber_74 (by rfl) ?_
          refine g_iconst (-1) dX6_readNumber_75 (by rfl) ?_
          refine g_ireturn dX6_readNumber_76 rfl ?_
          rw [hb]
          exact ⟨rfl, rfl, hsc, hoff⟩
        · refine g_iload_n dX6_readNumber_64 rfl (by rfl) ?_
          refine g_iload_n dX6_readNumber_65 rfl (by rfl) ?_
          refine g_icmp_le (tgt := 77) dX6_readNumber_66 (by decide) (fun c_66 => ?_) (fun c_66 => ?_)
          · have hb : (x_rd tx len q lo hi) = ((x_nm tx ((x_tok tx len q).1 - (x_tok tx len q).2.2) (x_tok tx len q).2.2 0), 0) := by unfold x_rd; rw [if_pos hk2, if_neg (fun z => z.elim c_61 (fun z => Int32.not_le.mpr z c_66))]
            refine g_iload_n dX6_readNumber_77 rfl (by rfl) ?_
            refine g_ireturn dX6_readNumber_78 rfl ?_
            rw [hb]
            exact ⟨rfl, rfl, hsc, hoff⟩
          · have hb : (x_rd tx len q lo hi) = (-1, 2) := by unfold x_rd; rw [if_pos hk2, if_pos (Or.inr (Int32.not_le.mp c_66))]
            refine g_aload_n dX6_readNumber_69 rfl (by rfl) ?_
            refine g_iconst 2 dX6_readNumber_70 (by rfl) ?_
            refine g_callV_p (c_X6_fail hsc hn _) dX6_readNumber_71 (mX6_fail) rfl lX6_46 iX6_fail vX6_fail (by decide) (by omega) (by exact hs) rfl rfl rfl rfl (Nat.le_of_ble_eq_true rfl) (fun v9 h9 z9 => ?_)
            obtain ⟨rfl, hsc, hoff2⟩ := z9
            have hoff := hoff.trans hoff2
            have hs := hsc.1
            have hx := hsc.2
            refine g_pop dX6_readNumber_74 (by rfl) ?_
            refine g_iconst (-1) dX6_readNumber_75 (by rfl) ?_
            refine g_ireturn dX6_readNumber_76 rfl ?_
            rw [hb]
            exact ⟨rfl, rfl, hsc, hoff⟩
      | succ r ih =>
        intro p a hp ha
        refine g_iload dX6_readNumber_28 (by rfl) ?_
        refine g_aload_n dX6_readNumber_30 rfl (by rfl) ?_
        refine g_getf dX6_readNumber_31 fX6_25 (by exact hs) (by omega) (by rfl) ?_
        refine g_icmp_ge (tgt := 59) dX6_readNumber_34 (by decide) (fun c_34 => absurd c_34 (nI_ge (by omega) (by omega))) (fun _ => ?_)
        refine g_iload_n dX6_readNumber_37 rfl (by rfl) ?_
        refine g_bipush 10 dX6_readNumber_38 (by rfl) ?_
        refine g_imul dX6_readNumber_40 ?_
        refine g_aload_n dX6_readNumber_41 rfl (by rfl) ?_
        refine g_getf dX6_readNumber_42 fX6_9 (by exact hs) (by omega) (by rfl) ?_
        refine g_iload dX6_readNumber_45 (by rfl) ?_
        refine g_bald dX6_readNumber_47 (by exact hx) (by omega) (by rfl) (by omega) (by omega) ?_
        refine g_iadd dX6_readNumber_48 ?_
        refine g_bipush 48 dX6_readNumber_49 (by rfl) ?_
        refine g_isub dX6_readNumber_51 ?_
        refine g_istore_n dX6_readNumber_52 rfl (by decide) ?_
        refine g_iinc (nI (p + 1)) dX6_readNumber_53 (by rfl) (nI_inc p) ?_
        refine g_goto (tgt := 28) dX6_readNumber_56 (by decide) ?_
        exact g_lv (ih (p + 1) _ (by omega) (by rw [← ha]; rfl)) ⟨rfl, rfl, rfl, rfl, rfl, trivial⟩
    exact g_lv (loop ((x_tok tx len q).1 - (x_tok tx len q).2.2) (x_tok tx len q).2.2 0 (by omega) rfl) ⟨rfl, rfl, rfl, rfl, rfl, trivial⟩
  · have hb : (x_rd tx len q lo hi) = (-1, 1) := by unfold x_rd; rw [if_neg c_9]
    refine g_aload_n dX6_readNumber_12 rfl (by rfl) ?_
    refine g_iconst 1 dX6_readNumber_13 (by rfl) ?_
    refine g_callV_p (c_X6_fail hsc hn _) dX6_readNumber_14 (mX6_fail) rfl lX6_46 iX6_fail vX6_fail (by decide) (by omega) (by exact hs) rfl rfl rfl rfl (Nat.le_of_ble_eq_true rfl) (fun v9 h9 z9 => ?_)
    obtain ⟨rfl, hsc, hoff2⟩ := z9
    have hoff := hoff.trans hoff2
    have hs := hsc.1
    have hx := hsc.2
    refine g_pop dX6_readNumber_17 (by rfl) ?_
    refine g_iconst (-1) dX6_readNumber_18 (by rfl) ?_
    refine g_ireturn dX6_readNumber_19 rfl ?_
    rw [hb]
    exact ⟨rfl, rfl, hsc, hoff⟩
