theorem s_b8 {n : Nat} (h : n < 128) : (nI n).toInt8.toInt32 = nI n := by
  have e : ∀ m, m < 128 → (nI m).toInt8.toInt32 = nI m := by decide +kernel
  exact e n h

/-! REPORT; HISTORY -/
def s_rep (h : s_H) (r : Nat) (L : List Int32) : Prop := h r = .inr (3, [.ref (r + 1), .int (nI L.length)]) ∧ L.length ≤ 1200 ∧ ∃ f : Nat → Int32, h (r + 1) = .inl (2, 1200, .inl f) ∧ ∀ q, q < L.length → f q = L.getD q 0
theorem s_rep.off {h h1 : s_H} {r a b : Nat} {L : List Int32} (q : s_rep h r L) (z : s_off h h1 a b) (hd : r + 2 ≤ a ∨ b ≤ r) : s_rep h1 r L := by
  obtain ⟨q0, q3, f, q1, q2⟩ := q
  exact ⟨(z _ (by omega)).trans q0, q3, f, (z _ (by omega)).trans q1, q2⟩
abbrev p_by (x : Int32) : Int32 := x.toInt8.toInt32.toInt8.toInt32
/-- the digits of v, from the k-th on -/
def p_dg (v : Nat) : Nat → List Int32
  | 0 => []
  | k + 1 => (if 10 ^ k ≤ v ∨ k = 0 then [nI (48 + v / 10 ^ k % 10)] else []) ++ p_dg v k
theorem p_dg_len (v : Nat) : ∀ k, (p_dg v k).length ≤ k
  | 0 => Nat.le_refl _
  | k + 1 => by
    have ih := p_dg_len v k
    rw [p_dg, List.length_append]
    split
    · simp only [List.length_singleton]; omega
    · simp only [List.length_nil]; omega
theorem p_by_small {d : Nat} (h : d < 128) : p_by (nI d) = nI d := by
  unfold p_by
  rw [s_b8 h, s_b8 h]
theorem p_dg_y {v k : Nat} (h : 10 ^ k ≤ v ∨ k = 0) : p_dg v (k + 1) = [nI (48 + v / 10 ^ k % 10)] ++ p_dg v k := by rw [p_dg, if_pos h]
theorem p_dg_n {v k : Nat} (h : ¬ (10 ^ k ≤ v ∨ k = 0)) : p_dg v (k + 1) = p_dg v k := by rw [p_dg, if_neg h, List.nil_append]
def p_at (L : List Int32) (x : Int32) : Int32 := if x < 0 ∨ nI L.length ≤ x then -1 else L.getD x.toNatClampNeg 0

theorem c_X5_put {h : s_H} {n r : Nat} {L : List Int32} (hR : s_rep h r L) (hn : r + 1 < n) (hl : L.length < 1200) (x : Int32) : s_Mt TX5_put 0 0 [.ref r, .int x] h n (s_rp n (fun v9 h1 => v9 = none ∧ s_rep h1 r (L ++ [p_by x]) ∧ s_off h h1 r (r + 2)) s_no) := by
  obtain ⟨hr, hl12, f, qb, hf⟩ := hR
  refine s_Mt_of rfl (by decide) (by exact Nat.le_of_ble_eq_true rfl) ?_
  refine g_aload_n dX5_put_0 rfl (by rfl) ?_
  refine g_getf dX5_put_1 fX5_15 (by exact hr) (by omega) (by rfl) ?_
  refine g_sipush 1200 dX5_put_4 (by rfl) ?_
  refine g_icmp_ge (tgt := 31) dX5_put_7 (by decide) (fun c_7 => absurd c_7 (nI_ge (a := L.length) (b := 1200) (by omega) (by omega))) (fun _ => ?_)
  refine g_aload_n dX5_put_10 rfl (by rfl) ?_
  refine g_getf dX5_put_11 fX5_9 (by exact hr) (by omega) (by rfl) ?_
  refine g_aload_n dX5_put_14 rfl (by rfl) ?_
  refine g_getf dX5_put_15 fX5_15 (by exact hr) (by omega) (by rfl) ?_
  refine g_iload_n dX5_put_18 rfl (by rfl) ?_
  refine g_i2b dX5_put_19 ?_
  refine g_bast' dX5_put_20 (by exact qb) (by omega) (by rfl) (by omega) (by omega) (fun h1 e1 => ?_)
  first | have hr_1 := s_up_off e1 (by omega) hr | have hr_1 := s_up_at e1
  first | have qb_1 := s_up_off e1 (by omega) qb | have qb_1 := s_up_at e1
  refine g_aload_n dX5_put_21 rfl (by rfl) ?_
  refine g_dup dX5_put_22 (by rfl) ?_
  refine g_getf dX5_put_23 fX5_15 (by exact hr_1) (by omega) (by rfl) ?_
  refine g_iconst 1 dX5_put_26 (by rfl) ?_
  refine g_iadd dX5_put_27 ?_
  refine g_putf' dX5_put_28 pX5_15 (by exact hr_1) (by omega) (by exact Nat.le_of_ble_eq_true rfl) (by rfl) (by rfl) (fun h2 e2 => ?_)
  first | have hr_2 := s_up_off e2 (by omega) hr_1 | have hr_2 := s_up_at e2
  first | have qb_2 := s_up_off e2 (by omega) qb_1 | have qb_2 := s_up_at e2
  refine g_vreturn dX5_put_31 rfl ?_
  have z9 := hr_2
  rw [nI_1] at z9
  refine ⟨rfl, rfl, ⟨by rw [List.length_append]; exact z9, by rw [List.length_append]; simp only [List.length_singleton]; omega, _, qb_2, ?_⟩, (((s_off.rf (a := r) (b := r + 2)).up e1 (by omega)).up e2 (by omega))⟩
  intro q hq
  rw [List.length_append] at hq
  simp only [List.length_singleton] at hq
  simp only [upd]
  by_cases e9 : q = L.length
  · rw [if_pos e9, e9]
    simp [p_by]
  · rw [if_neg e9, hf q (by omega)]
    simp only [List.getD_eq_getElem?_getD]
    rw [List.getElem?_append_left (by omega)]

theorem p_pow {k : Nat} (h : k < 7) : 10 ^ k < 2147483648 ∧ 0 < 10 ^ k := by
  have e : ∀ m, m < 7 → 10 ^ m < 2147483648 ∧ 0 < 10 ^ m := by decide +kernel
  exact e k h
theorem p_pow_div {k : Nat} (h : k < 6) : (nI (10 ^ (k + 1))) / 10 = nI (10 ^ k) := by
  have e : ∀ m, m < 6 → (nI (10 ^ (m + 1))) / 10 = nI (10 ^ m) := by decide +kernel
  exact e k h
theorem p_dig {v u : Nat} (hv : v < 2147483648) (hu : u < 2147483648) (h0 : 0 < u) : (48 : Int32) + (nI v / nI u - nI v / nI u / 10 * 10) = nI (48 + v / u % 10) := by
  have h1 : v / u < 2147483648 := Nat.lt_of_le_of_lt (Nat.div_le_self _ _) hv
  rw [pk_div hv h0 hu, show (10 : Int32) = nI 10 from rfl, pk_rem h1 (by decide) (by decide), show (48 : Int32) = nI 48 from rfl, nI_add]

theorem c_X5_putNumber {h : s_H} {n r v : Nat} {L : List Int32} (hR : s_rep h r L) (hn : r + 1 < n) (hl : L.length + 7 < 1200) (hv : v < 2147483648) : s_Mt TX5_putNumber 0 0 [.ref r, .int (nI v)] h n (s_rp n (fun v9 h1 => v9 = none ∧ s_rep h1 r (L ++ p_dg v 7) ∧ s_off h h1 r (r + 2)) s_no) := by
  have end0 : ∀ (h' : s_H), s_rep h' r (L ++ p_dg v 7) → s_off h h' r (r + 2) → s_G TX5_putNumber (s_rp n (fun v9 h1 => v9 = none ∧ s_rep h1 r (L ++ p_dg v 7) ∧ s_off h h1 r (r + 2)) s_no) 3 (s_lvs [(0, .ref r), (1, .int (nI v)), (2, .int 0)]) [] h' n 0 0 := by
    intro h' hR hoff
    refine g_iload_n dX5_putNumber_3 rfl (by rfl) ?_
    refine g_if_le (tgt := 38) dX5_putNumber_4 (by decide) (fun _ => ?_) (fun c_4 => absurd (show (0 : Int32) ≤ 0 by decide) c_4)
    refine g_vreturn dX5_putNumber_38 rfl ?_
    exact ⟨rfl, rfl, hR, hoff⟩
  have loop : ∀ (k : Nat) (h' : s_H) (L' : List Int32), k < 7 → s_rep h' r L' → L' ++ p_dg v (k + 1) = L ++ p_dg v 7 → s_off h h' r (r + 2) → s_G TX5_putNumber (s_rp n (fun v9 h1 => v9 = none ∧ s_rep h1 r (L ++ p_dg v 7) ∧ s_off h h1 r (r + 2)) s_no) 3 (s_lvs [(0, .ref r), (1, .int (nI v)), (2, .int (nI (10 ^ k)))]) [] h' n 0 0 := by
    intro k
    induction k with
    | zero =>
      intro h' L' hk hR happ hoff
      have hlen : L'.length + (p_dg v 1).length = L.length + (p_dg v 7).length := by have z := congrArg List.length happ; simpa using z
      have hd7 := p_dg_len v 7
      have h1 : (p_dg v 1).length = 1 := by simp [p_dg]
      refine g_iload_n dX5_putNumber_3 rfl (by rfl) ?_
      refine g_if_le (tgt := 38) dX5_putNumber_4 (by decide) (fun c_4 => absurd c_4 (show ¬ nI (10 ^ 0) ≤ 0 by decide)) (fun _ => ?_)
      refine g_iload_n dX5_putNumber_7 rfl (by rfl) ?_
      refine g_iload_n dX5_putNumber_8 rfl (by rfl) ?_
      refine g_icmp_ge (tgt := 17) dX5_putNumber_9 (by decide) (fun c_9 => ?_) (fun c_9 => ?_)
      · refine g_aload_n dX5_putNumber_17 rfl (by rfl) ?_
        refine g_bipush 48 dX5_putNumber_18 (by rfl) ?_
        refine g_iload_n dX5_putNumber_20 rfl (by rfl) ?_
        refine g_iload_n dX5_putNumber_21 rfl (by rfl) ?_
        refine g_idiv dX5_putNumber_22 (nI_ne0 (p_pow (by omega)).2 (p_pow (by omega)).1) ?_
        refine g_bipush 10 dX5_putNumber_23 (by rfl) ?_
        refine g_irem dX5_putNumber_25 (by decide) ?_
        refine g_iadd dX5_putNumber_26 ?_
        refine g_top _ (p_dig (u := 10 ^ 0) (by omega) (by decide) (by decide)) ?_
        refine g_callV_p (c_X5_put hR hn (by omega) _) dX5_putNumber_27 (mX5_put) rfl lX5_19 iX5_put vX5_put (by decide) (by omega) (by exact hR.1) rfl rfl rfl rfl (Nat.le_of_ble_eq_true rfl) (fun v9 h9 q9 => ?_)
        obtain ⟨rfl, qr, qoff⟩ := q9
        rw [p_by_small (by omega)] at qr
        refine g_iload_n dX5_putNumber_30 rfl (by rfl) ?_
        refine g_bipush 10 dX5_putNumber_31 (by rfl) ?_
        refine g_idiv dX5_putNumber_33 (by decide) ?_
        refine g_istore_n dX5_putNumber_34 rfl (by decide) ?_
        refine g_goto (tgt := 3) dX5_putNumber_35 (by decide) ?_
        exact g_lv (end0 h9 (by rw [← happ]; simpa [p_dg] using qr) (hoff.trans qoff)) ⟨rfl, rfl, s_some (show nI (10 ^ 0) / 10 = 0 by decide), trivial⟩
      · refine g_iload_n dX5_putNumber_12 rfl (by rfl) ?_
        refine g_iconst 1 dX5_putNumber_13 (by rfl) ?_
        refine g_icmp_ne (tgt := 30) dX5_putNumber_14 (by decide) (fun c_14 => absurd (show nI (10 ^ 0) = 1 from rfl) c_14) (fun _ => ?_)
        refine g_aload_n dX5_putNumber_17 rfl (by rfl) ?_
        refine g_bipush 48 dX5_putNumber_18 (by rfl) ?_
        refine g_iload_n dX5_putNumber_20 rfl (by rfl) ?_
        refine g_iload_n dX5_putNumber_21 rfl (by rfl) ?_
        refine g_idiv dX5_putNumber_22 (nI_ne0 (p_pow (by omega)).2 (p_pow (by omega)).1) ?_
        refine g_bipush 10 dX5_putNumber_23 (by rfl) ?_
        refine g_irem dX5_putNumber_25 (by decide) ?_
        refine g_iadd dX5_putNumber_26 ?_
        refine g_top _ (p_dig (u := 10 ^ 0) (by omega) (by decide) (by decide)) ?_
        refine g_callV_p (c_X5_put hR hn (by omega) _) dX5_putNumber_27 (mX5_put) rfl lX5_19 iX5_put vX5_put (by decide) (by omega) (by exact hR.1) rfl rfl rfl rfl (Nat.le_of_ble_eq_true rfl) (fun v9 h9 q9 => ?_)
        obtain ⟨rfl, qr, qoff⟩ := q9
        rw [p_by_small (by omega)] at qr
        refine g_iload_n dX5_putNumber_30 rfl (by rfl) ?_
        refine g_bipush 10 dX5_putNumber_31 (by rfl) ?_
        refine g_idiv dX5_putNumber_33 (by decide) ?_
        refine g_istore_n dX5_putNumber_34 rfl (by decide) ?_
        refine g_goto (tgt := 3) dX5_putNumber_35 (by decide) ?_
        exact g_lv (end0 h9 (by rw [← happ]; simpa [p_dg] using qr) (hoff.trans qoff)) ⟨rfl, rfl, s_some (show nI (10 ^ 0) / 10 = 0 by decide), trivial⟩
    | succ k ih =>
      intro h' L' hk hR happ hoff
      have hlen : L'.length + (p_dg v (k + 2)).length = L.length + (p_dg v 7).length := by have z := congrArg List.length happ; simpa using z
      have hd7 := p_dg_len v 7
      refine g_iload_n dX5_putNumber_3 rfl (by rfl) ?_
      refine g_if_le (tgt := 38) dX5_putNumber_4 (by decide) (fun c_4 => absurd c_4 (nI_nle (p_pow (by omega)).2 (p_pow (by omega)).1)) (fun _ => ?_)
      refine g_iload_n dX5_putNumber_7 rfl (by rfl) ?_
      refine g_iload_n dX5_putNumber_8 rfl (by rfl) ?_
      refine g_icmp_ge (tgt := 17) dX5_putNumber_9 (by decide) (fun c_9 => ?_) (fun c_9 => ?_)
      · have hle : 10 ^ (k + 1) ≤ v := (nI_leI (p_pow (by omega)).1 (by omega)).mp c_9
        have h1 : (p_dg v (k + 2)).length = 1 + (p_dg v (k + 1)).length := by rw [p_dg, if_pos (Or.inl hle)]; simp; omega
        refine g_aload_n dX5_putNumber_17 rfl (by rfl) ?_
        refine g_bipush 48 dX5_putNumber_18 (by rfl) ?_
        refine g_iload_n dX5_putNumber_20 rfl (by rfl) ?_
        refine g_iload_n dX5_putNumber_21 rfl (by rfl) ?_
        refine g_idiv dX5_putNumber_22 (nI_ne0 (p_pow (by omega)).2 (p_pow (by omega)).1) ?_
        refine g_bipush 10 dX5_putNumber_23 (by rfl) ?_
        refine g_irem dX5_putNumber_25 (by decide) ?_
        refine g_iadd dX5_putNumber_26 ?_
        refine g_top _ (p_dig (u := 10 ^ (k + 1)) (by omega) (p_pow (by omega)).1 (p_pow (by omega)).2) ?_
        refine g_callV_p (c_X5_put hR hn (by omega) _) dX5_putNumber_27 (mX5_put) rfl lX5_19 iX5_put vX5_put (by decide) (by omega) (by exact hR.1) rfl rfl rfl rfl (Nat.le_of_ble_eq_true rfl) (fun v9 h9 q9 => ?_)
        obtain ⟨rfl, qr, qoff⟩ := q9
        rw [p_by_small (by omega)] at qr
        refine g_iload_n dX5_putNumber_30 rfl (by rfl) ?_
        refine g_bipush 10 dX5_putNumber_31 (by rfl) ?_
        refine g_idiv dX5_putNumber_33 (by decide) ?_
        refine g_istore_n dX5_putNumber_34 rfl (by decide) ?_
        refine g_goto (tgt := 3) dX5_putNumber_35 (by decide) ?_
        first
          | exact g_lv (ih h9 _ (by omega) qr (by rw [← happ, List.append_assoc, p_dg_y (k := k + 1) (Or.inl hle)]) (hoff.trans qoff)) ⟨rfl, rfl, s_some (p_pow_div (by omega)), trivial⟩
          | exact g_lv (ih h' L' (by omega) hR (by rw [← happ, p_dg_n (k := k + 1) (by omega)]) hoff) ⟨rfl, rfl, s_some (p_pow_div (by omega)), trivial⟩
      · have hlt : ¬ 10 ^ (k + 1) ≤ v := fun z => c_9 (nI_le z (by omega))
        refine g_iload_n dX5_putNumber_12 rfl (by rfl) ?_
        refine g_iconst 1 dX5_putNumber_13 (by rfl) ?_
        refine g_icmp_ne (tgt := 30) dX5_putNumber_14 (by decide) (fun _ => ?_) (fun c_14 => absurd c_14 (show ¬ nI (10 ^ (k + 1)) = 1 from fun z => absurd (((nI_eq (p_pow (by omega)).1 (by decide)).mp (z.trans (show (1 : Int32) = nI 1 from rfl)))) (by rw [Nat.pow_succ]; have := (p_pow (k := k) (by omega)).2; omega)))
        refine g_iload_n dX5_putNumber_30 rfl (by rfl) ?_
        refine g_bipush 10 dX5_putNumber_31 (by rfl) ?_
        refine g_idiv dX5_putNumber_33 (by decide) ?_
        refine g_istore_n dX5_putNumber_34 rfl (by decide) ?_
        refine g_goto (tgt := 3) dX5_putNumber_35 (by decide) ?_
        first
          | exact g_lv (ih h9 _ (by omega) qr (by rw [← happ, List.append_assoc, p_dg_y (k := k + 1) (Or.inl hle)]) (hoff.trans qoff)) ⟨rfl, rfl, s_some (p_pow_div (by omega)), trivial⟩
          | exact g_lv (ih h' L' (by omega) hR (by rw [← happ, p_dg_n (k := k + 1) (by omega)]) hoff) ⟨rfl, rfl, s_some (p_pow_div (by omega)), trivial⟩
  refine s_Mt_of rfl (by decide) (by exact Nat.le_of_ble_eq_true rfl) ?_
  refine g_ldc dX5_putNumber_0 kX5_26 ?_
  refine g_istore_n dX5_putNumber_2 rfl (by decide) ?_
  exact g_lv (loop 6 h L (by omega) hR rfl s_off.rf) ⟨rfl, rfl, rfl, trivial⟩

theorem c_X5_putPair {h : s_H} {n r a b : Nat} {L : List Int32} (hR : s_rep h r L) (hn : r + 1 < n) (hl : L.length + 20 < 1200) (ha : a < 2147483648) (hb : b < 2147483648) : s_Mt TX5_putPair 0 0 [.ref r, .int (nI a), .int (nI b)] h n (s_rp n (fun v9 h1 => v9 = none ∧ s_rep h1 r ((L ++ (if L.length = 0 then [] else [32]) ++ p_dg a 7 ++ [58] ++ p_dg b 7)) ∧ s_off h h1 r (r + 2)) s_no) := by
  obtain ⟨hr, hl12, f, qb, hf⟩ := id hR
  refine s_Mt_of rfl (by decide) (by exact Nat.le_of_ble_eq_true rfl) ?_
  refine g_aload_n dX5_putPair_0 rfl (by rfl) ?_
  refine g_getf dX5_putPair_1 fX5_15 (by exact hr) (by omega) (by rfl) ?_
  refine g_if_le (tgt := 13) dX5_putPair_4 (by decide) (fun c_4 => ?_) (fun c_4 => ?_)
  · have hl0 : L.length = 0 := by
      rcases Nat.eq_zero_or_pos L.length with z | z
      · exact z
      · exact absurd c_4 (nI_nle z (by omega))
    rw [if_pos hl0, List.append_nil]
    have hR5 := hR
    have hoff5 : s_off h h r (r + 2) := s_off.rf
    refine g_aload_n dX5_putPair_13 rfl (by rfl) ?_
    refine g_iload_n dX5_putPair_14 rfl (by rfl) ?_
    refine g_callV_p (c_X5_putNumber (v := a) hR5 hn (by first | omega | (simp; omega)) ha) dX5_putPair_15 (mX5_putNumber) rfl lX5_23 iX5_putNumber vX5_putNumber (by decide) (by omega) (by exact hR5.1) rfl rfl rfl rfl (Nat.le_of_ble_eq_true rfl) (fun v9 h6 q9 => ?_)
    obtain ⟨rfl, hR6, hoff6⟩ := q9
    refine g_aload_n dX5_putPair_18 rfl (by rfl) ?_
    refine g_bipush 58 dX5_putPair_19 (by rfl) ?_
    refine g_callV_p (c_X5_put hR6 hn (by have z9 := p_dg_len a 7; simp; omega) _) dX5_putPair_21 (mX5_put) rfl lX5_19 iX5_put vX5_put (by decide) (by omega) (by exact hR6.1) rfl rfl rfl rfl (Nat.le_of_ble_eq_true rfl) (fun v9 h7 q9 => ?_)
    obtain ⟨rfl, hR7, hoff7⟩ := q9
    rw [show p_by 58 = 58 from rfl] at hR7
    refine g_aload_n dX5_putPair_24 rfl (by rfl) ?_
    refine g_iload_n dX5_putPair_25 rfl (by rfl) ?_
    refine g_callV_p (c_X5_putNumber (v := b) hR7 hn (by have z9 := p_dg_len a 7; simp; omega) hb) dX5_putPair_26 (mX5_putNumber) rfl lX5_23 iX5_putNumber vX5_putNumber (by decide) (by omega) (by exact hR7.1) rfl rfl rfl rfl (Nat.le_of_ble_eq_true rfl) (fun v9 h8 q9 => ?_)
    obtain ⟨rfl, hR8, hoff8⟩ := q9
    refine g_vreturn dX5_putPair_29 rfl ?_
    exact ⟨rfl, rfl, hR8, ((hoff5.trans hoff6).trans hoff7).trans hoff8⟩
  · have hl0 : ¬ L.length = 0 := fun z => c_4 (by rw [z]; decide)
    rw [if_neg hl0]
    refine g_aload_n dX5_putPair_7 rfl (by rfl) ?_
    refine g_bipush 32 dX5_putPair_8 (by rfl) ?_
    refine g_callV_p (c_X5_put hR hn (by omega) _) dX5_putPair_10 (mX5_put) rfl lX5_19 iX5_put vX5_put (by decide) (by omega) (by exact hR.1) rfl rfl rfl rfl (Nat.le_of_ble_eq_true rfl) (fun v9 h5 q9 => ?_)
    obtain ⟨rfl, hR5, hoff5⟩ := q9
    rw [show p_by 32 = 32 from rfl] at hR5
    refine g_aload_n dX5_putPair_13 rfl (by rfl) ?_
    refine g_iload_n dX5_putPair_14 rfl (by rfl) ?_
    refine g_callV_p (c_X5_putNumber (v := a) hR5 hn (by first | omega | (simp; omega)) ha) dX5_putPair_15 (mX5_putNumber) rfl lX5_23 iX5_putNumber vX5_putNumber (by decide) (by omega) (by exact hR5.1) rfl rfl rfl rfl (Nat.le_of_ble_eq_true rfl) (fun v9 h6 q9 => ?_)
    obtain ⟨rfl, hR6, hoff6⟩ := q9
    refine g_aload_n dX5_putPair_18 rfl (by rfl) ?_
    refine g_bipush 58 dX5_putPair_19 (by rfl) ?_
    refine g_callV_p (c_X5_put hR6 hn (by have z9 := p_dg_len a 7; simp; omega) _) dX5_putPair_21 (mX5_put) rfl lX5_19 iX5_put vX5_put (by decide) (by omega) (by exact hR6.1) rfl rfl rfl rfl (Nat.le_of_ble_eq_true rfl) (fun v9 h7 q9 => ?_)
    obtain ⟨rfl, hR7, hoff7⟩ := q9
    rw [show p_by 58 = 58 from rfl] at hR7
    refine g_aload_n dX5_putPair_24 rfl (by rfl) ?_
    refine g_iload_n dX5_putPair_25 rfl (by rfl) ?_
    refine g_callV_p (c_X5_putNumber (v := b) hR7 hn (by have z9 := p_dg_len a 7; simp; omega) hb) dX5_putPair_26 (mX5_putNumber) rfl lX5_23 iX5_putNumber vX5_putNumber (by decide) (by omega) (by exact hR7.1) rfl rfl rfl rfl (Nat.le_of_ble_eq_true rfl) (fun v9 h8 q9 => ?_)
    obtain ⟨rfl, hR8, hoff8⟩ := q9
    refine g_vreturn dX5_putPair_29 rfl ?_
    exact ⟨rfl, rfl, hR8, ((hoff5.trans hoff6).trans hoff7).trans hoff8⟩

theorem c_X5_byteAt {h : s_H} {n r : Nat} {L : List Int32} (hR : s_rep h r L) (hn : r + 1 < n) (x : Int32) : s_Mt TX5_byteAt 0 0 [.ref r, .int x] h n (s_re (some (.int (p_at L x))) h n) := by
  obtain ⟨hr, hl12, f, qb, hf⟩ := hR
  refine s_Mt_of rfl (by decide) (by exact Nat.le_of_ble_eq_true rfl) ?_
  refine g_iload_n dX5_byteAt_0 rfl (by rfl) ?_
  refine g_if_lt (tgt := 12) dX5_byteAt_1 (by decide) (fun c_1 => ?_) (fun c_1 => ?_)
  · refine g_iconst (-1) dX5_byteAt_12 (by rfl) ?_
    refine g_goto (tgt := 22) dX5_byteAt_13 (by decide) ?_
    refine g_ireturn dX5_byteAt_22 rfl ?_
    first
      | exact ⟨by rw [p_at, if_pos (Or.inl c_1)], rfl, rfl⟩
      | exact ⟨by rw [p_at, if_pos (Or.inr (Int32.not_lt.mp c_9))], rfl, rfl⟩
      | exact ⟨by rw [p_at, if_neg (fun z => z.elim hx0 (fun y => absurd c_9 (Int32.not_lt.mpr y))), hx, nI_clamp hj, hf j hj9], rfl, rfl⟩
  · refine g_iload_n dX5_byteAt_4 rfl (by rfl) ?_
    refine g_aload_n dX5_byteAt_5 rfl (by rfl) ?_
    refine g_getf dX5_byteAt_6 fX5_15 (by exact hr) (by omega) (by rfl) ?_
    refine g_icmp_lt (tgt := 16) dX5_byteAt_9 (by decide) (fun c_9 => ?_) (fun c_9 => ?_)
    · have hx0 : ¬ x < 0 := by first | exact c_1 | exact fun z => absurd z c_1
      obtain ⟨j, hj, hx⟩ := nI_of hx0
      have hj9 : j < L.length := by rw [hx] at c_9; exact (nI_ltI hj (by omega)).mp c_9
      refine g_aload_n dX5_byteAt_16 rfl (by rfl) ?_
      refine g_getf dX5_byteAt_17 fX5_9 (by exact hr) (by omega) (by rfl) ?_
      refine g_iload_n dX5_byteAt_20 rfl (by rfl) ?_
      refine g_bald dX5_byteAt_21 (by exact qb) (by omega) (by exact hx) (by omega) (by omega) ?_
      refine g_ireturn dX5_byteAt_22 rfl ?_
      first
        | exact ⟨by rw [p_at, if_pos (Or.inl c_1)], rfl, rfl⟩
        | exact ⟨by rw [p_at, if_pos (Or.inr (Int32.not_lt.mp c_9))], rfl, rfl⟩
        | exact ⟨by rw [p_at, if_neg (fun z => z.elim hx0 (fun y => absurd c_9 (Int32.not_lt.mpr y))), hx, nI_clamp hj, hf j hj9], rfl, rfl⟩
    · refine g_iconst (-1) dX5_byteAt_12 (by rfl) ?_
      refine g_goto (tgt := 22) dX5_byteAt_13 (by decide) ?_
      refine g_ireturn dX5_byteAt_22 rfl ?_
      first
        | exact ⟨by rw [p_at, if_pos (Or.inl c_1)], rfl, rfl⟩
        | exact ⟨by rw [p_at, if_pos (Or.inr (Int32.not_lt.mp c_9))], rfl, rfl⟩
        | exact ⟨by rw [p_at, if_neg (fun z => z.elim hx0 (fun y => absurd c_9 (Int32.not_lt.mpr y))), hx, nI_clamp hj, hf j hj9], rfl, rfl⟩
