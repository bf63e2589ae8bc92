/-! THE SCRIPT: tokens -/
def x_kd (c : Int32) : Int32 := if 97 ≤ c ∧ c ≤ 122 then 1 else if 48 ≤ c ∧ c ≤ 57 then 2 else if c = 40 ∨ c = 41 ∨ c = 59 then c else 3
/-- behind the blanks -/
def x_sk (tx : Nat → Int32) : Nat → Nat → Nat
  | 0, q => q
  | r + 1, q => if tx q = 32 ∨ tx q = 10 then x_sk tx r (q + 1) else q
/-- behind the signs of a kind -/
def x_rn (tx : Nat → Int32) (k : Int32) : Nat → Nat → Nat
  | 0, q => q
  | r + 1, q => if x_kd (tx q) = k then x_rn tx k r (q + 1) else q
/-- the token that begins at t: its end, its kind, its start -/
def x_at (tx : Nat → Int32) (len t : Nat) : Nat × Int32 × Nat :=
  if len ≤ t then (t, 0, t) else if x_kd (tx t) = 1 ∨ x_kd (tx t) = 2 then (x_rn tx (x_kd (tx t)) (len - (t + 1)) (t + 1), (if x_kd (tx t) = 2 ∧ 4 < x_rn tx (x_kd (tx t)) (len - (t + 1)) (t + 1) - t then 3 else x_kd (tx t)), t) else (t + 1, x_kd (tx t), t)
def x_tok (tx : Nat → Int32) (len q : Nat) : Nat × Int32 × Nat := x_at tx len (x_sk tx (len - q) q)
theorem x_sk_le {tx : Nat → Int32} {len : Nat} : ∀ r q, q + r = len → q ≤ x_sk tx r q ∧ x_sk tx r q ≤ len
  | 0, q, h => ⟨Nat.le_refl _, by simp only [x_sk]; omega⟩
  | r + 1, q, h => by
    unfold x_sk
    split
    · have := x_sk_le (tx := tx) (len := len) r (q + 1) (by omega)
      omega
    · omega
theorem x_rn_le {tx : Nat → Int32} {k : Int32} {len : Nat} : ∀ r q, q + r = len → q ≤ x_rn tx k r q ∧ x_rn tx k r q ≤ len
  | 0, q, h => ⟨Nat.le_refl _, by simp only [x_rn]; omega⟩
  | r + 1, q, h => by
    unfold x_rn
    split
    · have := x_rn_le (tx := tx) (k := k) (len := len) r (q + 1) (by omega)
      omega
    · omega
/-- a token's places -/
theorem x_tok_le {tx : Nat → Int32} {len q : Nat} (h : q ≤ len) : (x_tok tx len q).2.2 ≤ (x_tok tx len q).1 ∧ (x_tok tx len q).1 ≤ len ∧ q ≤ (x_tok tx len q).2.2 := by
  have h1 := x_sk_le (tx := tx) (len := len) (len - q) q (by omega)
  unfold x_tok x_at
  split
  · exact ⟨Nat.le_refl _, h1.2, h1.1⟩
  · have h2 := x_rn_le (tx := tx) (k := x_kd (tx (x_sk tx (len - q) q))) (len := len) (len - (x_sk tx (len - q) q + 1)) (x_sk tx (len - q) q + 1) (by omega)
    split
    · dsimp only
      omega
    · dsimp only
      omega

theorem c_X6_kindOf {h : s_H} {n : Nat} (x : Int32) : s_Mt TX6_kindOf 0 0 [.int x] h n (s_re (some (.int (x_kd x))) h n) := by
  refine s_Mt_of rfl (by decide) (by exact Nat.le_of_ble_eq_true rfl) ?_
  refine g_iload_n dX6_kindOf_0 rfl (by rfl) ?_
  refine g_bipush 97 dX6_kindOf_1 (by rfl) ?_
  refine g_icmp_lt (tgt := 14) dX6_kindOf_3 (by decide) (fun c_3 => ?_) (fun c_3 => ?_)
  · have hn1 : ¬ (97 ≤ x ∧ x ≤ 122) := fun z => Int32.not_lt.mpr z.1 c_3
    refine g_iload_n dX6_kindOf_14 rfl (by rfl) ?_
    refine g_bipush 48 dX6_kindOf_15 (by rfl) ?_
    refine g_icmp_lt (tgt := 28) dX6_kindOf_17 (by decide) (fun c_17 => ?_) (fun c_17 => ?_)
    · have hn2 : ¬ (48 ≤ x ∧ x ≤ 57) := fun z => Int32.not_lt.mpr z.1 c_17
      refine g_iload_n dX6_kindOf_28 rfl (by rfl) ?_
      refine g_bipush 40 dX6_kindOf_29 (by rfl) ?_
      refine g_icmp_eq (tgt := 46) dX6_kindOf_31 (by decide) (fun c_31 => ?_) (fun c_31 => ?_)
      · have hs3 : x = 40 ∨ x = 41 ∨ x = 59 := Or.inl c_31
        refine g_iload_n dX6_kindOf_46 rfl (by rfl) ?_
        refine g_goto (tgt := 51) dX6_kindOf_47 (by decide) ?_
        refine g_ireturn dX6_kindOf_51 rfl ?_
        exact ⟨by rw [x_kd, if_neg hn1, if_neg hn2]; first | rw [if_pos hs3] | rw [if_neg hs3], rfl, rfl⟩
      · refine g_iload_n dX6_kindOf_34 rfl (by rfl) ?_
        refine g_bipush 41 dX6_kindOf_35 (by rfl) ?_
        refine g_icmp_eq (tgt := 46) dX6_kindOf_37 (by decide) (fun c_37 => ?_) (fun c_37 => ?_)
        · have hs3 : x = 40 ∨ x = 41 ∨ x = 59 := Or.inr (Or.inl c_37)
          refine g_iload_n dX6_kindOf_46 rfl (by rfl) ?_
          refine g_goto (tgt := 51) dX6_kindOf_47 (by decide) ?_
          refine g_ireturn dX6_kindOf_51 rfl ?_
          exact ⟨by rw [x_kd, if_neg hn1, if_neg hn2]; first | rw [if_pos hs3] | rw [if_neg hs3], rfl, rfl⟩
        · refine g_iload_n dX6_kindOf_40 rfl (by rfl) ?_
          refine g_bipush 59 dX6_kindOf_41 (by rfl) ?_
          refine g_icmp_ne (tgt := 50) dX6_kindOf_43 (by decide) (fun c_43 => ?_) (fun c_43 => ?_)
          · have hs3 : ¬ (x = 40 ∨ x = 41 ∨ x = 59) := fun z => z.elim c_31 (fun z => z.elim c_37 c_43)
            refine g_iconst 3 dX6_kindOf_50 (by rfl) ?_
            refine g_ireturn dX6_kindOf_51 rfl ?_
            exact ⟨by rw [x_kd, if_neg hn1, if_neg hn2]; first | rw [if_pos hs3] | rw [if_neg hs3], rfl, rfl⟩
          · have hs3 : x = 40 ∨ x = 41 ∨ x = 59 := Or.inr (Or.inr c_43)
            refine g_iload_n dX6_kindOf_46 rfl (by rfl) ?_
            refine g_goto (tgt := 51) dX6_kindOf_47 (by decide) ?_
            refine g_ireturn dX6_kindOf_51 rfl ?_
            exact ⟨by rw [x_kd, if_neg hn1, if_neg hn2]; first | rw [if_pos hs3] | rw [if_neg hs3], rfl, rfl⟩
    · refine g_iload_n dX6_kindOf_20 rfl (by rfl) ?_
      refine g_bipush 57 dX6_kindOf_21 (by rfl) ?_
      refine g_icmp_gt (tgt := 28) dX6_kindOf_23 (by decide) (fun c_23 => ?_) (fun c_23 => ?_)
      · have hn2 : ¬ (48 ≤ x ∧ x ≤ 57) := fun z => Int32.not_lt.mpr z.2 c_23
        refine g_iload_n dX6_kindOf_28 rfl (by rfl) ?_
        refine g_bipush 40 dX6_kindOf_29 (by rfl) ?_
        refine g_icmp_eq (tgt := 46) dX6_kindOf_31 (by decide) (fun c_31 => ?_) (fun c_31 => ?_)
        · have hs3 : x = 40 ∨ x = 41 ∨ x = 59 := Or.inl c_31
          refine g_iload_n dX6_kindOf_46 rfl (by rfl) ?_
          refine g_goto (tgt := 51) dX6_kindOf_47 (by decide) ?_
          refine g_ireturn dX6_kindOf_51 rfl ?_
          exact ⟨by rw [x_kd, if_neg hn1, if_neg hn2]; first | rw [if_pos hs3] | rw [if_neg hs3], rfl, rfl⟩
        · refine g_iload_n dX6_kindOf_34 rfl (by rfl) ?_
          refine g_bipush 41 dX6_kindOf_35 (by rfl) ?_
          refine g_icmp_eq (tgt := 46) dX6_kindOf_37 (by decide) (fun c_37 => ?_) (fun c_37 => ?_)
          · have hs3 : x = 40 ∨ x = 41 ∨ x = 59 := Or.inr (Or.inl c_37)
            refine g_iload_n dX6_kindOf_46 rfl (by rfl) ?_
            refine g_goto (tgt := 51) dX6_kindOf_47 (by decide) ?_
            refine g_ireturn dX6_kindOf_51 rfl ?_
            exact ⟨by rw [x_kd, if_neg hn1, if_neg hn2]; first | rw [if_pos hs3] | rw [if_neg hs3], rfl, rfl⟩
          · refine g_iload_n dX6_kindOf_40 rfl (by rfl) ?_
            refine g_bipush 59 dX6_kindOf_41 (by rfl) ?_
            refine g_icmp_ne (tgt := 50) dX6_kindOf_43 (by decide) (fun c_43 => ?_) (fun c_43 => ?_)
            · have hs3 : ¬ (x = 40 ∨ x = 41 ∨ x = 59) := fun z => z.elim c_31 (fun z => z.elim c_37 c_43)
              refine g_iconst 3 dX6_kindOf_50 (by rfl) ?_
              refine g_ireturn dX6_kindOf_51 rfl ?_
              exact ⟨by rw [x_kd, if_neg hn1, if_neg hn2]; first | rw [if_pos hs3] | rw [if_neg hs3], rfl, rfl⟩
            · have hs3 : x = 40 ∨ x = 41 ∨ x = 59 := Or.inr (Or.inr c_43)
              refine g_iload_n dX6_kindOf_46 rfl (by rfl) ?_
              refine g_goto (tgt := 51) dX6_kindOf_47 (by decide) ?_
              refine g_ireturn dX6_kindOf_51 rfl ?_
              exact ⟨by rw [x_kd, if_neg hn1, if_neg hn2]; first | rw [if_pos hs3] | rw [if_neg hs3], rfl, rfl⟩
      · refine g_iconst 2 dX6_kindOf_26 (by rfl) ?_
        refine g_ireturn dX6_kindOf_27 rfl ?_
        exact ⟨by rw [x_kd, if_neg hn1, if_pos ⟨Int32.not_lt.mp c_17, Int32.not_lt.mp c_23⟩], rfl, rfl⟩
  · refine g_iload_n dX6_kindOf_6 rfl (by rfl) ?_
    refine g_bipush 122 dX6_kindOf_7 (by rfl) ?_
    refine g_icmp_gt (tgt := 14) dX6_kindOf_9 (by decide) (fun c_9 => ?_) (fun c_9 => ?_)
    · have hn1 : ¬ (97 ≤ x ∧ x ≤ 122) := fun z => Int32.not_lt.mpr z.2 c_9
      refine g_iload_n dX6_kindOf_14 rfl (by rfl) ?_
      refine g_bipush 48 dX6_kindOf_15 (by rfl) ?_
      refine g_icmp_lt (tgt := 28) dX6_kindOf_17 (by decide) (fun c_17 => ?_) (fun c_17 => ?_)
      · have hn2 : ¬ (48 ≤ x ∧ x ≤ 57) := fun z => Int32.not_lt.mpr z.1 c_17
        refine g_iload_n dX6_kindOf_28 rfl (by rfl) ?_
        refine g_bipush 40 dX6_kindOf_29 (by rfl) ?_
        refine g_icmp_eq (tgt := 46) dX6_kindOf_31 (by decide) (fun c_31 => ?_) (fun c_31 => ?_)
        · have hs3 : x = 40 ∨ x = 41 ∨ x = 59 := Or.inl c_31
          refine g_iload_n dX6_kindOf_46 rfl (by rfl) ?_
          refine g_goto (tgt := 51) dX6_kindOf_47 (by decide) ?_
          refine g_ireturn dX6_kindOf_51 rfl ?_
          exact ⟨by rw [x_kd, if_neg hn1, if_neg hn2]; first | rw [if_pos hs3] | rw [if_neg hs3], rfl, rfl⟩
        · refine g_iload_n dX6_kindOf_34 rfl (by rfl) ?_
          refine g_bipush 41 dX6_kindOf_35 (by rfl) ?_
          refine g_icmp_eq (tgt := 46) dX6_kindOf_37 (by decide) (fun c_37 => ?_) (fun c_37 => ?_)
          · have hs3 : x = 40 ∨ x = 41 ∨ x = 59 := Or.inr (Or.inl c_37)
            refine g_iload_n dX6_kindOf_46 rfl (by rfl) ?_
            refine g_goto (tgt := 51) dX6_kindOf_47 (by decide) ?_
            refine g_ireturn dX6_kindOf_51 rfl ?_
            exact ⟨by rw [x_kd, if_neg hn1, if_neg hn2]; first | rw [if_pos hs3] | rw [if_neg hs3], rfl, rfl⟩
          · refine g_iload_n dX6_kindOf_40 rfl (by rfl) ?_
            refine g_bipush 59 dX6_kindOf_41 (by rfl) ?_
            refine g_icmp_ne (tgt := 50) dX6_kindOf_43 (by decide) (fun c_43 => ?_) (fun c_43 => ?_)
            · have hs3 : ¬ (x = 40 ∨ x = 41 ∨ x = 59) := fun z => z.elim c_31 (fun z => z.elim c_37 c_43)
              refine g_iconst 3 dX6_kindOf_50 (by rfl) ?_
              refine g_ireturn dX6_kindOf_51 rfl ?_
              exact ⟨by rw [x_kd, if_neg hn1, if_neg hn2]; first | rw [if_pos hs3] | rw [if_neg hs3], rfl, rfl⟩
            · have hs3 : x = 40 ∨ x = 41 ∨ x = 59 := Or.inr (Or.inr c_43)
              refine g_iload_n dX6_kindOf_46 rfl (by rfl) ?_
              refine g_goto (tgt := 51) dX6_kindOf_47 (by decide) ?_
              refine g_ireturn dX6_kindOf_51 rfl ?_
              exact ⟨by rw [x_kd, if_neg hn1, if_neg hn2]; first | rw [if_pos hs3] | rw [if_neg hs3], rfl, rfl⟩
      · refine g_iload_n dX6_kindOf_20 rfl (by rfl) ?_
        refine g_bipush 57 dX6_kindOf_21 (by rfl) ?_
        refine g_icmp_gt (tgt := 28) dX6_kindOf_23 (by decide) (fun c_23 => ?_) (fun c_23 => ?_)
        · have hn2 : ¬ (48 ≤ x ∧ x ≤ 57) := fun z => Int32.not_lt.mpr z.2 c_23
          refine g_iload_n dX6_kindOf_28 rfl (by rfl) ?_
          refine g_bipush 40 dX6_kindOf_29 (by rfl) ?_
          refine g_icmp_eq (tgt := 46) dX6_kindOf_31 (by decide) (fun c_31 => ?_) (fun c_31 => ?_)
          · have hs3 : x = 40 ∨ x = 41 ∨ x = 59 := Or.inl c_31
            refine g_iload_n dX6_kindOf_46 rfl (by rfl) ?_
            refine g_goto (tgt := 51) dX6_kindOf_47 (by decide) ?_
            refine g_ireturn dX6_kindOf_51 rfl ?_
            exact ⟨by rw [x_kd, if_neg hn1, if_neg hn2]; first | rw [if_pos hs3] | rw [if_neg hs3], rfl, rfl⟩
          · refine g_iload_n dX6_kindOf_34 rfl (by rfl) ?_
            refine g_bipush 41 dX6_kindOf_35 (by rfl) ?_
            refine g_icmp_eq (tgt := 46) dX6_kindOf_37 (by decide) (fun c_37 => ?_) (fun c_37 => ?_)
            · have hs3 : x = 40 ∨ x = 41 ∨ x = 59 := Or.inr (Or.inl c_37)
              refine g_iload_n dX6_kindOf_46 rfl (by rfl) ?_
              refine g_goto (tgt := 51) dX6_kindOf_47 (by decide) ?_
              refine g_ireturn dX6_kindOf_51 rfl ?_
              exact ⟨by rw [x_kd, if_neg hn1, if_neg hn2]; first | rw [if_pos hs3] | rw [if_neg hs3], rfl, rfl⟩
            · refine g_iload_n dX6_kindOf_40 rfl (by rfl) ?_
              refine g_bipush 59 dX6_kindOf_41 (by rfl) ?_
              refine g_icmp_ne (tgt := 50) dX6_kindOf_43 (by decide) (fun c_43 => ?_) (fun c_43 => ?_)
              · have hs3 : ¬ (x = 40 ∨ x = 41 ∨ x = 59) := fun z => z.elim c_31 (fun z => z.elim c_37 c_43)
                refine g_iconst 3 dX6_kindOf_50 (by rfl) ?_
                refine g_ireturn dX6_kindOf_51 rfl ?_
                exact ⟨by rw [x_kd, if_neg hn1, if_neg hn2]; first | rw [if_pos hs3] | rw [if_neg hs3], rfl, rfl⟩
              · have hs3 : x = 40 ∨ x = 41 ∨ x = 59 := Or.inr (Or.inr c_43)
                refine g_iload_n dX6_kindOf_46 rfl (by rfl) ?_
                refine g_goto (tgt := 51) dX6_kindOf_47 (by decide) ?_
                refine g_ireturn dX6_kindOf_51 rfl ?_
                exact ⟨by rw [x_kd, if_neg hn1, if_neg hn2]; first | rw [if_pos hs3] | rw [if_neg hs3], rfl, rfl⟩
        · refine g_iconst 2 dX6_kindOf_26 (by rfl) ?_
          refine g_ireturn dX6_kindOf_27 rfl ?_
          exact ⟨by rw [x_kd, if_neg hn1, if_pos ⟨Int32.not_lt.mp c_17, Int32.not_lt.mp c_23⟩], rfl, rfl⟩
    · refine g_iconst 1 dX6_kindOf_12 (by rfl) ?_
      refine g_ireturn dX6_kindOf_13 rfl ?_
      exact ⟨by rw [x_kd, if_pos ⟨Int32.not_lt.mp c_3, Int32.not_lt.mp c_9⟩], rfl, rfl⟩

theorem c_X6_fail {h : s_H} {n s len : Nat} {tx : Nat → Int32} {ek eo nx tk ts ex : Int32} (hsc : s_sc h s tx len ek eo nx tk ts ex) (hn : s + 1 < n) (k : Int32) : s_Mt TX6_fail 0 0 [.ref s, .int k] h n (s_rp n (fun v9 h1 => v9 = some (.int 0) ∧ s_sc h1 s tx len k ts nx tk ts ex ∧ s_off h h1 s (s + 2)) s_no) := by
  obtain ⟨hs, hx⟩ := hsc
  refine s_Mt_of rfl (by decide) (by exact Nat.le_of_ble_eq_true rfl) ?_
  refine g_aload_n dX6_fail_0 rfl (by rfl) ?_
  refine g_iload_n dX6_fail_1 rfl (by rfl) ?_
  refine g_putf' dX6_fail_2 pX6_19 (by exact hs) (by omega) (by exact Nat.le_of_ble_eq_true rfl) (by rfl) (by rfl) (fun h1 e1 => ?_)
  first | have hs_1 := s_up_off e1 (by omega) hs | have hs_1 := s_up_at e1
  first | have hx_1 := s_up_off e1 (by omega) hx | have hx_1 := s_up_at e1
  refine g_aload_n dX6_fail_5 rfl (by rfl) ?_
  refine g_aload_n dX6_fail_6 rfl (by rfl) ?_
  refine g_getf dX6_fail_7 fX6_31 (by exact hs_1) (by omega) (by rfl) ?_
  refine g_putf' dX6_fail_10 pX6_22 (by exact hs_1) (by omega) (by exact Nat.le_of_ble_eq_true rfl) (by rfl) (by rfl) (fun h2 e2 => ?_)
  first | have hs_2 := s_up_off e2 (by omega) hs_1 | have hs_2 := s_up_at e2
  first | have hx_2 := s_up_off e2 (by omega) hx_1 | have hx_2 := s_up_at e2
  refine g_iconst 0 dX6_fail_13 (by rfl) ?_
  refine g_zreturn dX6_fail_14 rfl (by decide) ?_
  exact ⟨rfl, rfl, ⟨hs_2, hx_2⟩, (s_off.rf.up e1 (by omega)).up e2 (by omega)⟩

theorem c_X6_readToken {h : s_H} {n s len q : Nat} {tx : Nat → Int32} {ek eo tk ts ex : Int32} (hsc : s_sc h s tx len ek eo (nI q) tk ts ex) (hn : s + 1 < n) (hq : q ≤ len) (hl : len ≤ 500) : s_Mt TX6_readToken 0 0 [.ref s] h n (s_rp n (fun v9 h1 => v9 = none ∧ s_sc h1 s tx len ek eo (nI (x_tok tx len q).1) (x_tok tx len q).2.1 (nI (x_tok tx len q).2.2) ex ∧ s_off h h1 s (s + 2)) s_no) := by
  have fin : ∀ (e t : Nat) (k : Int32) (h' : s_H), h' s = .inr (4, [.ref (s + 1), .int (nI len), .int ek, .int eo, .int (nI e), .int k, .int (nI t), .int ex]) → h' (s + 1) = .inl (2, 500, .inl tx) → t ≤ e → e ≤ len → x_tok tx len q = (e, (if k = 2 ∧ 4 < e - t then 3 else k), t) → s_off h h' s (s + 2) → s_G TX6_readToken (s_rp n (fun v9 h1 => v9 = none ∧ s_sc h1 s tx len ek eo (nI (x_tok tx len q).1) (x_tok tx len q).2.1 (nI (x_tok tx len q).2.2) ex ∧ s_off h h1 s (s + 2)) s_no) 162 (s_lvs [(0, .ref s)]) [] h' n 0 0 := by
    intro e t k h' hs hx hte hel hx9 hoff
    refine g_aload_n dX6_readToken_162 rfl (by rfl) ?_
    refine g_getf dX6_readToken_163 fX6_28 (by exact hs) (by omega) (by rfl) ?_
    refine g_iconst 2 dX6_readToken_166 (by rfl) ?_
    refine g_icmp_ne (tgt := 188) dX6_readToken_167 (by decide) (fun c_167 => ?_) (fun c_167 => ?_)
    · have hk9 : (if k = 2 ∧ 4 < e - t then 3 else k) = k := if_neg (fun z => c_167 z.1)
      refine g_vreturn dX6_readToken_188 rfl ?_
      rw [hk9] at hx9
      refine ⟨rfl, rfl, ?_, hoff⟩
      rw [hx9]
      exact ⟨hs, hx⟩
    · refine g_aload_n dX6_readToken_170 rfl (by rfl) ?_
      refine g_getf dX6_readToken_171 fX6_25 (by exact hs) (by omega) (by rfl) ?_
      refine g_aload_n dX6_readToken_174 rfl (by rfl) ?_
      refine g_getf dX6_readToken_175 fX6_31 (by exact hs) (by omega) (by rfl) ?_
      refine g_isub dX6_readToken_178 ?_
      rw [show (nI e - nI t : Int32) = nI (e - t) from nI_sble (by omega)]
      refine g_iconst 4 dX6_readToken_179 (by rfl) ?_
      refine g_icmp_le (tgt := 188) dX6_readToken_180 (by decide) (fun c_180 => ?_) (fun c_180 => ?_)
      · have hk9 : (if k = 2 ∧ 4 < e - t then 3 else k) = k := if_neg (fun z => absurd c_180 (show ¬ nI (e - t) ≤ nI 4 from nI_ge z.2 (by omega)))
        refine g_vreturn dX6_readToken_188 rfl ?_
        rw [hk9] at hx9
        refine ⟨rfl, rfl, ?_, hoff⟩
        rw [hx9]
        exact ⟨hs, hx⟩
      · have hk9 : (if k = 2 ∧ 4 < e - t then 3 else k) = 3 := if_pos ⟨c_167, Nat.lt_of_not_le fun z => c_180 (show nI (e - t) ≤ nI 4 from nI_le z (by omega))⟩
        refine g_aload_n dX6_readToken_183 rfl (by rfl) ?_
        refine g_iconst 3 dX6_readToken_184 (by rfl) ?_
        refine g_putf' dX6_readToken_185 pX6_28 (by exact hs) (by omega) (by exact Nat.le_of_ble_eq_true rfl) (by rfl) (by rfl) (fun h1 e1 => ?_)
        first | have hs_1 := s_up_off e1 (by omega) hs | have hs_1 := s_up_at e1
        first | have hx_1 := s_up_off e1 (by omega) hx | have hx_1 := s_up_at e1
        refine g_vreturn dX6_readToken_188 rfl ?_
        rw [hk9] at hx9
        refine ⟨rfl, rfl, ?_, hoff.up e1 (by omega)⟩
        rw [hx9]
        exact ⟨hs_1, hx_1⟩
  have loop2 : ∀ (k : Int32) (t r e : Nat) (h' : s_H), e + r = len → t ≤ e → h' s = .inr (4, [.ref (s + 1), .int (nI len), .int ek, .int eo, .int (nI e), .int k, .int (nI t), .int ex]) → h' (s + 1) = .inl (2, 500, .inl tx) → x_tok tx len q = ((x_rn tx k r e), (if k = 2 ∧ 4 < (x_rn tx k r e) - t then 3 else k), t) → s_off h h' s (s + 2) → s_G TX6_readToken (s_rp n (fun v9 h1 => v9 = none ∧ s_sc h1 s tx len ek eo (nI (x_tok tx len q).1) (x_tok tx len q).2.1 (nI (x_tok tx len q).2.2) ex ∧ s_off h h1 s (s + 2)) s_no) 119 (s_lvs [(0, .ref s)]) [] h' n 0 0 := by
    intro k t r
    induction r with
    | zero =>
      intro e h' he hte hs hx hx9 hoff
      obtain rfl : e = len := by omega
      refine g_aload_n dX6_readToken_119 rfl (by rfl) ?_
      refine g_getf dX6_readToken_120 fX6_25 (by exact hs) (by omega) (by rfl) ?_
      refine g_aload_n dX6_readToken_123 rfl (by rfl) ?_
      refine g_getf dX6_readToken_124 fX6_15 (by exact hs) (by omega) (by rfl) ?_
      refine g_icmp_ge (tgt := 162) dX6_readToken_127 (by decide) (fun _ => ?_) (fun c_127 => absurd (nI_le (by omega) (by omega)) c_127)
      exact g_lv (fin e t k h' hs hx (by omega) (by omega) hx9 hoff) ⟨rfl, trivial⟩
    | succ r ih =>
      intro e h' he hte hs hx hx9 hoff
      refine g_aload_n dX6_readToken_119 rfl (by rfl) ?_
      refine g_getf dX6_readToken_120 fX6_25 (by exact hs) (by omega) (by rfl) ?_
      refine g_aload_n dX6_readToken_123 rfl (by rfl) ?_
      refine g_getf dX6_readToken_124 fX6_15 (by exact hs) (by omega) (by rfl) ?_
      refine g_icmp_ge (tgt := 162) dX6_readToken_127 (by decide) (fun c_127 => absurd c_127 (nI_ge (by omega) (by omega))) (fun _ => ?_)
      refine g_aload_n dX6_readToken_130 rfl (by rfl) ?_
      refine g_getf dX6_readToken_131 fX6_9 (by exact hs) (by omega) (by rfl) ?_
      refine g_aload_n dX6_readToken_134 rfl (by rfl) ?_
      refine g_getf dX6_readToken_135 fX6_25 (by exact hs) (by omega) (by rfl) ?_
      refine g_bald dX6_readToken_138 (by exact hx) (by omega) (by rfl) (by omega) (by omega) ?_
      refine g_callS_e (c_X6_kindOf _) dX6_readToken_139 (mX6_kindOf) rfl lX6_161 sX6_kindOf (by decide) rfl rfl (Nat.le_of_ble_eq_true rfl) ?_
      refine g_aload_n dX6_readToken_142 rfl (by rfl) ?_
      refine g_getf dX6_readToken_143 fX6_28 (by exact hs) (by omega) (by rfl) ?_
      refine g_icmp_ne (tgt := 162) dX6_readToken_146 (by decide) (fun c_146 => ?_) (fun c_146 => ?_)
      · have hE : x_rn tx k (r + 1) e = e := if_neg c_146
        exact g_lv (fin e t k h' hs hx (by omega) (by omega) (by rw [hE] at hx9; exact hx9) hoff) ⟨rfl, trivial⟩
      · have hE : x_rn tx k (r + 1) e = x_rn tx k r (e + 1) := if_pos c_146
        refine g_aload_n dX6_readToken_149 rfl (by rfl) ?_
        refine g_dup dX6_readToken_150 (by rfl) ?_
        refine g_getf dX6_readToken_151 fX6_25 (by exact hs) (by omega) (by rfl) ?_
        refine g_iconst 1 dX6_readToken_154 (by rfl) ?_
        refine g_iadd dX6_readToken_155 ?_
        rw [nI_1]
        refine g_putf' dX6_readToken_156 pX6_25 (by exact hs) (by omega) (by exact Nat.le_of_ble_eq_true rfl) (by rfl) (by rfl) (fun h1 e1 => ?_)
        first | have hs_1 := s_up_off e1 (by omega) hs | have hs_1 := s_up_at e1
        first | have hx_1 := s_up_off e1 (by omega) hx | have hx_1 := s_up_at e1
        refine g_goto (tgt := 119) dX6_readToken_159 (by decide) ?_
        exact g_lv (ih (e + 1) h1 (by omega) (by omega) hs_1 hx_1 (by rw [hE] at hx9; exact hx9) (hoff.up e1 (by omega))) ⟨rfl, trivial⟩
  have loop1 : ∀ (r p : Nat) (h' : s_H), p + r = len → h' s = .inr (4, [.ref (s + 1), .int (nI len), .int ek, .int eo, .int (nI p), .int tk, .int ts, .int ex]) → h' (s + 1) = .inl (2, 500, .inl tx) → x_sk tx r p = x_sk tx (len - q) q → s_off h h' s (s + 2) → s_G TX6_readToken (s_rp n (fun v9 h1 => v9 = none ∧ s_sc h1 s tx len ek eo (nI (x_tok tx len q).1) (x_tok tx len q).2.1 (nI (x_tok tx len q).2.2) ex ∧ s_off h h1 s (s + 2)) s_no) 0 (s_lvs [(0, .ref s)]) [] h' n 0 0 := by
    intro r
    induction r with
    | zero =>
      intro p h' hp hs hx hT hoff
      obtain rfl : p = len := by omega
      refine g_aload_n dX6_readToken_0 rfl (by rfl) ?_
      refine g_getf dX6_readToken_1 fX6_25 (by exact hs) (by omega) (by rfl) ?_
      refine g_aload_n dX6_readToken_4 rfl (by rfl) ?_
      refine g_getf dX6_readToken_5 fX6_15 (by exact hs) (by omega) (by rfl) ?_
      refine g_icmp_ge (tgt := 52) dX6_readToken_8 (by decide) (fun _ => ?_) (fun c_8 => absurd (nI_le (by omega) (by omega)) c_8)
      refine g_aload_n dX6_readToken_52 rfl (by rfl) ?_
      refine g_aload_n dX6_readToken_53 rfl (by rfl) ?_
      refine g_getf dX6_readToken_54 fX6_25 (by exact hs) (by omega) (by rfl) ?_
      refine g_putf' dX6_readToken_57 pX6_31 (by exact hs) (by omega) (by exact Nat.le_of_ble_eq_true rfl) (by rfl) (by rfl) (fun h1 e1 => ?_)
      first | have hs_1 := s_up_off e1 (by omega) hs | have hs_1 := s_up_at e1
      first | have hx_1 := s_up_off e1 (by omega) hx | have hx_1 := s_up_at e1
      refine g_aload_n dX6_readToken_60 rfl (by rfl) ?_
      refine g_getf dX6_readToken_61 fX6_25 (by exact hs_1) (by omega) (by rfl) ?_
      refine g_aload_n dX6_readToken_64 rfl (by rfl) ?_
      refine g_getf dX6_readToken_65 fX6_15 (by exact hs_1) (by omega) (by rfl) ?_
      refine g_icmp_lt (tgt := 77) dX6_readToken_68 (by decide) (fun c_68 => absurd c_68 (fun z => absurd (nI_le (a := p) (b := p) (Nat.le_refl _) (by omega)) (Int32.not_le.mpr z))) (fun _ => ?_)
      refine g_aload_n dX6_readToken_71 rfl (by rfl) ?_
      refine g_iconst 0 dX6_readToken_72 (by rfl) ?_
      refine g_putf' dX6_readToken_73 pX6_28 (by exact hs_1) (by omega) (by exact Nat.le_of_ble_eq_true rfl) (by rfl) (by rfl) (fun h2 e2 => ?_)
      first | have hs_2 := s_up_off e2 (by omega) hs_1 | have hs_2 := s_up_at e2
      first | have hx_2 := s_up_off e2 (by omega) hx_1 | have hx_2 := s_up_at e2
      refine g_vreturn dX6_readToken_76 rfl ?_
      have hx9 : x_tok tx p q = (p, 0, p) := by
        unfold x_tok
        rw [← hT]
        simp only [x_sk, x_at]
        exact if_pos (Nat.le_refl _)
      refine ⟨rfl, rfl, ?_, (hoff.up e1 (by omega)).up e2 (by omega)⟩
      rw [hx9]
      exact ⟨hs_2, hx_2⟩
    | succ r ih =>
      intro p h' hp hs hx hT hoff
      refine g_aload_n dX6_readToken_0 rfl (by rfl) ?_
      refine g_getf dX6_readToken_1 fX6_25 (by exact hs) (by omega) (by rfl) ?_
      refine g_aload_n dX6_readToken_4 rfl (by rfl) ?_
      refine g_getf dX6_readToken_5 fX6_15 (by exact hs) (by omega) (by rfl) ?_
      refine g_icmp_ge (tgt := 52) dX6_readToken_8 (by decide) (fun c_8 => absurd c_8 (nI_ge (by omega) (by omega))) (fun _ => ?_)
      refine g_aload_n dX6_readToken_11 rfl (by rfl) ?_
      refine g_getf dX6_readToken_12 fX6_9 (by exact hs) (by omega) (by rfl) ?_
      refine g_aload_n dX6_readToken_15 rfl (by rfl) ?_
      refine g_getf dX6_readToken_16 fX6_25 (by exact hs) (by omega) (by rfl) ?_
      refine g_bald dX6_readToken_19 (by exact hx) (by omega) (by rfl) (by omega) (by omega) ?_
      refine g_bipush 32 dX6_readToken_20 (by rfl) ?_
      refine g_icmp_eq (tgt := 39) dX6_readToken_22 (by decide) (fun c_22 => ?_) (fun c_22 => ?_)
      · have hE : x_sk tx (r + 1) p = x_sk tx r (p + 1) := if_pos (Or.inl c_22)
        refine g_aload_n dX6_readToken_39 rfl (by rfl) ?_
        refine g_dup dX6_readToken_40 (by rfl) ?_
        refine g_getf dX6_readToken_41 fX6_25 (by exact hs) (by omega) (by rfl) ?_
        refine g_iconst 1 dX6_readToken_44 (by rfl) ?_
        refine g_iadd dX6_readToken_45 ?_
        rw [nI_1]
        refine g_putf' dX6_readToken_46 pX6_25 (by exact hs) (by omega) (by exact Nat.le_of_ble_eq_true rfl) (by rfl) (by rfl) (fun h1 e1 => ?_)
        first | have hs_1 := s_up_off e1 (by omega) hs | have hs_1 := s_up_at e1
        first | have hx_1 := s_up_off e1 (by omega) hx | have hx_1 := s_up_at e1
        refine g_goto (tgt := 0) dX6_readToken_49 (by decide) ?_
        exact g_lv (ih (p + 1) h1 (by omega) hs_1 hx_1 (by rw [hE] at hT; exact hT) ((hoff.up e1 (by omega)))) ⟨rfl, trivial⟩
      · refine g_aload_n dX6_readToken_25 rfl (by rfl) ?_
        refine g_getf dX6_readToken_26 fX6_9 (by exact hs) (by omega) (by rfl) ?_
        refine g_aload_n dX6_readToken_29 rfl (by rfl) ?_
        refine g_getf dX6_readToken_30 fX6_25 (by exact hs) (by omega) (by rfl) ?_
        refine g_bald dX6_readToken_33 (by exact hx) (by omega) (by rfl) (by omega) (by omega) ?_
        refine g_bipush 10 dX6_readToken_34 (by rfl) ?_
        refine g_icmp_ne (tgt := 52) dX6_readToken_36 (by decide) (fun c_36 => ?_) (fun c_36 => ?_)
        · have hE : x_sk tx (r + 1) p = p := if_neg (fun z => z.elim c_22 c_36)
          have hT9 : x_tok tx len q = x_at tx len p := by unfold x_tok; rw [← hT, hE]
          refine g_aload_n dX6_readToken_52 rfl (by rfl) ?_
          refine g_aload_n dX6_readToken_53 rfl (by rfl) ?_
          refine g_getf dX6_readToken_54 fX6_25 (by exact hs) (by omega) (by rfl) ?_
          refine g_putf' dX6_readToken_57 pX6_31 (by exact hs) (by omega) (by exact Nat.le_of_ble_eq_true rfl) (by rfl) (by rfl) (fun h2 e2 => ?_)
          first | have hs_2 := s_up_off e2 (by omega) hs | have hs_2 := s_up_at e2
          first | have hx_2 := s_up_off e2 (by omega) hx | have hx_2 := s_up_at e2
          refine g_aload_n dX6_readToken_60 rfl (by rfl) ?_
          refine g_getf dX6_readToken_61 fX6_25 (by exact hs_2) (by omega) (by rfl) ?_
          refine g_aload_n dX6_readToken_64 rfl (by rfl) ?_
          refine g_getf dX6_readToken_65 fX6_15 (by exact hs_2) (by omega) (by rfl) ?_
          refine g_icmp_lt (tgt := 77) dX6_readToken_68 (by decide) (fun _ => ?_) (fun c_68 => absurd (nI_lt (by omega) (by omega)) c_68)
          refine g_aload_n dX6_readToken_77 rfl (by rfl) ?_
          refine g_aload_n dX6_readToken_78 rfl (by rfl) ?_
          refine g_getf dX6_readToken_79 fX6_9 (by exact hs_2) (by omega) (by rfl) ?_
          refine g_aload_n dX6_readToken_82 rfl (by rfl) ?_
          refine g_getf dX6_readToken_83 fX6_25 (by exact hs_2) (by omega) (by rfl) ?_
          refine g_bald dX6_readToken_86 (by exact hx_2) (by omega) (by rfl) (by omega) (by omega) ?_
          refine g_callS_e (c_X6_kindOf _) dX6_readToken_87 (mX6_kindOf) rfl lX6_161 sX6_kindOf (by decide) rfl rfl (Nat.le_of_ble_eq_true rfl) ?_
          refine g_putf' dX6_readToken_90 pX6_28 (by exact hs_2) (by omega) (by exact Nat.le_of_ble_eq_true rfl) (by rfl) (by rfl) (fun h3 e3 => ?_)
          first | have hs_3 := s_up_off e3 (by omega) hs_2 | have hs_3 := s_up_at e3
          first | have hx_3 := s_up_off e3 (by omega) hx_2 | have hx_3 := s_up_at e3
          refine g_aload_n dX6_readToken_93 rfl (by rfl) ?_
          refine g_dup dX6_readToken_94 (by rfl) ?_
          refine g_getf dX6_readToken_95 fX6_25 (by exact hs_3) (by omega) (by rfl) ?_
          refine g_iconst 1 dX6_readToken_98 (by rfl) ?_
          refine g_iadd dX6_readToken_99 ?_
          rw [nI_1]
          refine g_putf' dX6_readToken_100 pX6_25 (by exact hs_3) (by omega) (by exact Nat.le_of_ble_eq_true rfl) (by rfl) (by rfl) (fun h4 e4 => ?_)
          first | have hs_4 := s_up_off e4 (by omega) hs_3 | have hs_4 := s_up_at e4
          first | have hx_4 := s_up_off e4 (by omega) hx_3 | have hx_4 := s_up_at e4
          refine g_aload_n dX6_readToken_103 rfl (by rfl) ?_
          refine g_getf dX6_readToken_104 fX6_28 (by exact hs_4) (by omega) (by rfl) ?_
          refine g_iconst 1 dX6_readToken_107 (by rfl) ?_
          refine g_icmp_eq (tgt := 119) dX6_readToken_108 (by decide) (fun c_108 => ?_) (fun c_108 => ?_)
          · have hx9 : x_tok tx len q = (x_rn tx (x_kd (tx p)) (len - (p + 1)) (p + 1), (if x_kd (tx p) = 2 ∧ 4 < x_rn tx (x_kd (tx p)) (len - (p + 1)) (p + 1) - p then 3 else x_kd (tx p)), p) := by
              rw [hT9]
              unfold x_at
              rw [if_neg (show ¬ len ≤ p by omega), if_pos (Or.inl c_108)]
            have hkk : x_kd (tx p) = 1 ∨ x_kd (tx p) = 2 := Or.inl c_108
            exact g_lv (loop2 (x_kd (tx p)) p (len - (p + 1)) (p + 1) h4 (by omega) (by omega) hs_4 hx_4 hx9 ((((hoff.up e2 (by omega)).up e3 (by omega)).up e4 (by omega)))) ⟨rfl, trivial⟩
          · refine g_aload_n dX6_readToken_111 rfl (by rfl) ?_
            refine g_getf dX6_readToken_112 fX6_28 (by exact hs_4) (by omega) (by rfl) ?_
            refine g_iconst 2 dX6_readToken_115 (by rfl) ?_
            refine g_icmp_ne (tgt := 162) dX6_readToken_116 (by decide) (fun c_116 => ?_) (fun c_116 => ?_)
            · have hx9 : x_tok tx len q = (p + 1, (if x_kd (tx p) = 2 ∧ 4 < p + 1 - p then 3 else x_kd (tx p)), p) := by
                rw [hT9]
                unfold x_at
                rw [if_neg (show ¬ len ≤ p by omega), if_neg (fun z => z.elim c_108 c_116), if_neg (fun z => c_116 z.1)]
              exact g_lv (fin (p + 1) p (x_kd (tx p)) h4 hs_4 hx_4 (by omega) (by omega) hx9 ((((hoff.up e2 (by omega)).up e3 (by omega)).up e4 (by omega)))) ⟨rfl, trivial⟩
            · have hx9 : x_tok tx len q = (x_rn tx (x_kd (tx p)) (len - (p + 1)) (p + 1), (if x_kd (tx p) = 2 ∧ 4 < x_rn tx (x_kd (tx p)) (len - (p + 1)) (p + 1) - p then 3 else x_kd (tx p)), p) := by
                rw [hT9]
                unfold x_at
                rw [if_neg (show ¬ len ≤ p by omega), if_pos (Or.inr c_116)]
              have hkk : x_kd (tx p) = 1 ∨ x_kd (tx p) = 2 := Or.inr c_116
              exact g_lv (loop2 (x_kd (tx p)) p (len - (p + 1)) (p + 1) h4 (by omega) (by omega) hs_4 hx_4 hx9 ((((hoff.up e2 (by omega)).up e3 (by omega)).up e4 (by omega)))) ⟨rfl, trivial⟩
        · have hE : x_sk tx (r + 1) p = x_sk tx r (p + 1) := if_pos (Or.inr c_36)
          refine g_aload_n dX6_readToken_39 rfl (by rfl) ?_
          refine g_dup dX6_readToken_40 (by rfl) ?_
          refine g_getf dX6_readToken_41 fX6_25 (by exact hs) (by omega) (by rfl) ?_
          refine g_iconst 1 dX6_readToken_44 (by rfl) ?_
          refine g_iadd dX6_readToken_45 ?_
          rw [nI_1]
          refine g_putf' dX6_readToken_46 pX6_25 (by exact hs) (by omega) (by exact Nat.le_of_ble_eq_true rfl) (by rfl) (by rfl) (fun h5 e5 => ?_)
          first | have hs_5 := s_up_off e5 (by omega) hs | have hs_5 := s_up_at e5
          first | have hx_5 := s_up_off e5 (by omega) hx | have hx_5 := s_up_at e5
          refine g_goto (tgt := 0) dX6_readToken_49 (by decide) ?_
          exact g_lv (ih (p + 1) h5 (by omega) hs_5 hx_5 (by rw [hE] at hT; exact hT) ((hoff.up e5 (by omega)))) ⟨rfl, trivial⟩
  refine s_Mt_of rfl (by decide) (by exact Nat.le_of_ble_eq_true rfl) ?_
  exact g_lv (loop1 (len - q) q h (by omega) hsc.1 hsc.2 rfl s_off.rf) ⟨rfl, trivial⟩
