/-! DISK: its state, its small methods -/
/-- a disk: field f (size, value, age, state) of item i; count, capacity, backups, their sizes, their weights -/
abbrev s_D : Type := (Nat → Nat → Int32) × (Nat → Int32)
def s_disk (h : s_H) (d : Nat) (σ : s_D) : Prop :=
  h d = .inr (0, [.ref (d + 1), .ref (d + 2), .ref (d + 3), .ref (d + 4), .int (σ.2 0), .int (σ.2 1), .int (σ.2 2), .int (σ.2 3), .int (σ.2 4)]) ∧
  h (d + 1) = .inl (0, 14, .inl (σ.1 0)) ∧ h (d + 2) = .inl (0, 14, .inl (σ.1 1)) ∧ h (d + 3) = .inl (0, 14, .inl (σ.1 2)) ∧ h (d + 4) = .inl (0, 14, .inl (σ.1 3))
/-- nothing but the objects from a on, up to b, has changed -/
def s_off (h h1 : s_H) (a b : Nat) : Prop := ∀ j, j < a ∨ b ≤ j → h1 j = h j
theorem s_off.rf {h : s_H} {a b : Nat} : s_off h h a b := fun _ _ => rfl
theorem s_off.up {h h1 h2 : s_H} {a b i : Nat} {o : s_O} (q : s_off h h1 a b) (e : h2 = s_up h1 i o) (hi : a ≤ i ∧ i < b) : s_off h h2 a b := fun j hj => by
  rw [e, s_up_ne h1 o (by omega)]
  exact q j hj
theorem s_off.trans {h h1 h2 : s_H} {a b : Nat} (q : s_off h h1 a b) (r : s_off h1 h2 a b) : s_off h h2 a b := fun j hj => (r j hj).trans (q j hj)
theorem s_off.wide {h h1 : s_H} {a b a' b' : Nat} (q : s_off h h1 a b) (ha : a' ≤ a) (hb : b ≤ b') : s_off h h1 a' b' := fun j hj => q j (by omega)
theorem s_disk.off {h h1 : s_H} {d a b : Nat} {σ : s_D} (q : s_disk h d σ) (r : s_off h h1 a b) (hd : d + 5 ≤ a ∨ b ≤ d) : s_disk h1 d σ := by
  obtain ⟨q0, q1, q2, q3, q4⟩ := q
  exact ⟨(r _ (by omega)).trans q0, (r _ (by omega)).trans q1, (r _ (by omega)).trans q2, (r _ (by omega)).trans q3, (r _ (by omega)).trans q4⟩
abbrev s_bit (set x : Int32) : Int32 := (set >>> (x &&& 31)) &&& 1
def d_wt (σ : s_D) (i : Nat) : Int32 := σ.1 1 i * (1 + σ.1 2 i)
def d_set (σ : s_D) (st : Int32) : Nat → Int32
  | 0 => 0
  | i + 1 => if σ.1 3 i = st then d_set σ st i ||| ((1 : Int32) <<< (nI i &&& 31)) else d_set σ st i
def d_tot (g : Nat → Int32) (set : Int32) : Nat → Int32
  | 0 => 0
  | i + 1 => if s_bit set (nI i) = 0 then d_tot g set i else d_tot g set i + g i

theorem s_some {x y : Int32} (h : x = y) : (some (Value.int x) : Option Value) = some (.int y) := by rw [h]
theorem s_ite01 {c : Prop} [Decidable c] : ((if c then (0 : Int32) else 1) = 0) ↔ c := by by_cases h : c <;> simp [h]

theorem s_totN {g : Nat → Int32} {set : Int32} {i : Nat} (c : (if s_bit set (nI i) = 0 then (0 : Int32) else 1) = 0) : d_tot g set i = d_tot g set (i + 1) := by rw [d_tot, if_pos (s_ite01.mp c)]
theorem s_totY {g : Nat → Int32} {set : Int32} {i : Nat} (c : ¬ (if s_bit set (nI i) = 0 then (0 : Int32) else 1) = 0) : d_tot g set i + g i = d_tot g set (i + 1) := by rw [d_tot, if_neg (fun q => c (s_ite01.mpr q))]

theorem c_X8_contains {h : s_H} {n : Nat} (set x : Int32) : s_Mt TX8_contains 0 0 [.int set, .int x] h n (s_re (some (.int (if s_bit set x = 0 then 0 else 1))) h n) := by
  refine s_Mt_of rfl (by decide) (by exact Nat.le_of_ble_eq_true rfl) ?_
  refine g_iload_n dX8_contains_0 rfl (by rfl) ?_
  refine g_iload_n dX8_contains_1 rfl (by rfl) ?_
  refine g_ishr dX8_contains_2 ?_
  refine g_iconst 1 dX8_contains_3 (by rfl) ?_
  refine g_iand dX8_contains_4 ?_
  refine g_if_eq (tgt := 12) dX8_contains_5 (by decide) (fun c_5 => ?_) (fun c_5 => ?_)
  · refine g_iconst 0 dX8_contains_12 (by rfl) ?_
    refine g_zreturn dX8_contains_13 rfl (by decide) ?_
    exact ⟨by simp only [s_bit, *, if_true, if_false], rfl, rfl⟩
  · refine g_iconst 1 dX8_contains_8 (by rfl) ?_
    refine g_goto (tgt := 13) dX8_contains_9 (by decide) ?_
    refine g_zreturn dX8_contains_13 rfl (by decide) ?_
    exact ⟨by simp only [s_bit, *, if_true, if_false], rfl, rfl⟩

theorem c_X2_weightOf {h : s_H} {n d i : Nat} {σ : s_D} (hD : s_disk h d σ) (hn : d + 4 < n) (hi : i < 14) : s_Mt TX2_weightOf 0 0 [.ref d, .int (nI i)] h n (s_re (some (.int (d_wt σ i))) h n) := by
  obtain ⟨hd, q1, q2, q3, q4⟩ := hD
  refine s_Mt_of rfl (by decide) (by exact Nat.le_of_ble_eq_true rfl) ?_
  refine g_aload_n dX2_weightOf_0 rfl (by rfl) ?_
  refine g_getf dX2_weightOf_1 fX2_15 (by exact hd) (by omega) (by rfl) ?_
  refine g_iload_n dX2_weightOf_4 rfl (by rfl) ?_
  refine g_iald dX2_weightOf_5 (by first | exact q1 | exact q2 | exact q3 | exact q4) (by omega) (by rfl) (by omega) (by omega) ?_
  refine g_iconst 1 dX2_weightOf_6 (by rfl) ?_
  refine g_aload_n dX2_weightOf_7 rfl (by rfl) ?_
  refine g_getf dX2_weightOf_8 fX2_18 (by exact hd) (by omega) (by rfl) ?_
  refine g_iload_n dX2_weightOf_11 rfl (by rfl) ?_
  refine g_iald dX2_weightOf_12 (by first | exact q1 | exact q2 | exact q3 | exact q4) (by omega) (by rfl) (by omega) (by omega) ?_
  refine g_iadd dX2_weightOf_13 ?_
  refine g_imul dX2_weightOf_14 ?_
  refine g_ireturn dX2_weightOf_15 rfl ?_
  exact ⟨rfl, rfl, rfl⟩

theorem c_X2_setOf {h : s_H} {n d cnt : Nat} {σ : s_D} (hD : s_disk h d σ) (hn : d + 4 < n) (hc : σ.2 0 = nI cnt) (hc14 : cnt ≤ 14) (st : Int32) : s_Mt TX2_setOf 0 0 [.ref d, .int st] h n (s_re (some (.int (d_set σ st cnt))) h n) := by
  obtain ⟨hd, q1, q2, q3, q4⟩ := hD
  rw [hc] at hd
  have loop : ∀ k i : Nat, i + k = cnt → s_G TX2_setOf (s_re (some (.int (d_set σ st cnt))) h n) 4 (s_lvs [(0, .ref d), (1, .int st), (2, .int (d_set σ st i)), (3, .int (nI i))]) [] h n 0 0 := by
    intro k
    induction k with
    | zero =>
      intro i hi
      obtain rfl : i = cnt := by omega
      refine g_iload_n dX2_setOf_4 rfl (by rfl) ?_
      refine g_aload_n dX2_setOf_5 rfl (by rfl) ?_
      refine g_getf dX2_setOf_6 fX2_24 (by exact hd) (by omega) (by rfl) ?_
      refine g_icmp_ge (tgt := 34) dX2_setOf_9 (by decide) (fun _ => ?_) (fun c_9 => absurd (nI_le (by omega) (by omega)) c_9)
      refine g_iload_n dX2_setOf_34 rfl (by rfl) ?_
      refine g_ireturn dX2_setOf_35 rfl ?_
      exact ⟨rfl, rfl, rfl⟩
    | succ k ih =>
      intro i hi
      refine g_iload_n dX2_setOf_4 rfl (by rfl) ?_
      refine g_aload_n dX2_setOf_5 rfl (by rfl) ?_
      refine g_getf dX2_setOf_6 fX2_24 (by exact hd) (by omega) (by rfl) ?_
      refine g_icmp_ge (tgt := 34) dX2_setOf_9 (by decide) (fun c_9 => absurd c_9 (nI_ge (by omega) (by omega))) (fun _ => ?_)
      refine g_aload_n dX2_setOf_12 rfl (by rfl) ?_
      refine g_getf dX2_setOf_13 fX2_21 (by exact hd) (by omega) (by rfl) ?_
      refine g_iload_n dX2_setOf_16 rfl (by rfl) ?_
      refine g_iald dX2_setOf_17 (by first | exact q1 | exact q2 | exact q3 | exact q4) (by omega) (by rfl) (by omega) (by omega) ?_
      refine g_iload_n dX2_setOf_18 rfl (by rfl) ?_
      refine g_icmp_ne (tgt := 28) dX2_setOf_19 (by decide) (fun c_19 => ?_) (fun c_19 => ?_)
      · refine g_iinc (nI (i + 1)) dX2_setOf_28 (by rfl) (nI_inc i) ?_
        refine g_goto (tgt := 4) dX2_setOf_31 (by decide) ?_
        exact g_lv (ih (i + 1) (by omega)) ⟨rfl, rfl, by simp only [d_set, *, if_true, if_false]; rfl, rfl, trivial⟩
      · refine g_iload_n dX2_setOf_22 rfl (by rfl) ?_
        refine g_iconst 1 dX2_setOf_23 (by rfl) ?_
        refine g_iload_n dX2_setOf_24 rfl (by rfl) ?_
        refine g_ishl dX2_setOf_25 ?_
        refine g_ior dX2_setOf_26 ?_
        refine g_istore_n dX2_setOf_27 rfl (by decide) ?_
        refine g_iinc (nI (i + 1)) dX2_setOf_28 (by rfl) (nI_inc i) ?_
        refine g_goto (tgt := 4) dX2_setOf_31 (by decide) ?_
        exact g_lv (ih (i + 1) (by omega)) ⟨rfl, rfl, by simp only [d_set, *, if_true, if_false]; rfl, rfl, trivial⟩
  refine s_Mt_of rfl (by decide) (by exact Nat.le_of_ble_eq_true rfl) ?_
  refine g_iconst 0 dX2_setOf_0 (by rfl) ?_
  refine g_istore_n dX2_setOf_1 rfl (by decide) ?_
  refine g_iconst 0 dX2_setOf_2 (by rfl) ?_
  refine g_istore_n dX2_setOf_3 rfl (by decide) ?_
  exact g_lv (loop cnt 0 (by omega)) ⟨rfl, rfl, rfl, rfl, trivial⟩

theorem c_X2_totalSize {h : s_H} {n d cnt : Nat} {σ : s_D} (hD : s_disk h d σ) (hn : d + 4 < n) (hc : σ.2 0 = nI cnt) (hc14 : cnt ≤ 14) (set : Int32) : s_Mt TX2_totalSize 0 0 [.ref d, .int set] h n (s_re (some (.int (d_tot (σ.1 0) set cnt))) h n) := by
  obtain ⟨hd, q1, q2, q3, q4⟩ := hD
  rw [hc] at hd
  have loop : ∀ k i : Nat, i + k = cnt → s_G TX2_totalSize (s_re (some (.int (d_tot (σ.1 0) set cnt))) h n) 4 (s_lvs [(0, .ref d), (1, .int set), (2, .int (d_tot (σ.1 0) set i)), (3, .int (nI i))]) [] h n 0 0 := by
    intro k
    induction k with
    | zero =>
      intro i hi
      obtain rfl : i = cnt := by omega
      refine g_iload_n dX2_totalSize_4 rfl (by rfl) ?_
      refine g_aload_n dX2_totalSize_5 rfl (by rfl) ?_
      refine g_getf dX2_totalSize_6 fX2_24 (by exact hd) (by omega) (by rfl) ?_
      refine g_icmp_ge (tgt := 35) dX2_totalSize_9 (by decide) (fun _ => ?_) (fun c_9 => absurd (nI_le (by omega) (by omega)) c_9)
      refine g_iload_n dX2_totalSize_35 rfl (by rfl) ?_
      refine g_ireturn dX2_totalSize_36 rfl ?_
      exact ⟨rfl, rfl, rfl⟩
    | succ k ih =>
      intro i hi
      refine g_iload_n dX2_totalSize_4 rfl (by rfl) ?_
      refine g_aload_n dX2_totalSize_5 rfl (by rfl) ?_
      refine g_getf dX2_totalSize_6 fX2_24 (by exact hd) (by omega) (by rfl) ?_
      refine g_icmp_ge (tgt := 35) dX2_totalSize_9 (by decide) (fun c_9 => absurd c_9 (nI_ge (by omega) (by omega))) (fun _ => ?_)
      refine g_iload_n dX2_totalSize_12 rfl (by rfl) ?_
      refine g_iload_n dX2_totalSize_13 rfl (by rfl) ?_
      refine g_callSN_e (c_X8_contains set (nI i)) dX2_totalSize_14 (mX8_contains) rfl lX2_46 sX8_contains (by decide) rfl rfl (Nat.le_of_ble_eq_true rfl) ?_
      refine g_if_eq (tgt := 29) dX2_totalSize_17 (by decide) (fun c_17 => ?_) (fun c_17 => ?_)
      · refine g_iinc (nI (i + 1)) dX2_totalSize_29 (by rfl) (nI_inc i) ?_
        refine g_goto (tgt := 4) dX2_totalSize_32 (by decide) ?_
        exact g_lv (ih (i + 1) (by omega)) ⟨rfl, rfl, (by first | exact s_some (s_totN c_17) | exact s_some (s_totY c_17)), rfl, trivial⟩
      · refine g_iload_n dX2_totalSize_20 rfl (by rfl) ?_
        refine g_aload_n dX2_totalSize_21 rfl (by rfl) ?_
        refine g_getf dX2_totalSize_22 fX2_9 (by exact hd) (by omega) (by rfl) ?_
        refine g_iload_n dX2_totalSize_25 rfl (by rfl) ?_
        refine g_iald dX2_totalSize_26 (by first | exact q1 | exact q2 | exact q3 | exact q4) (by omega) (by rfl) (by omega) (by omega) ?_
        refine g_iadd dX2_totalSize_27 ?_
        refine g_istore_n dX2_totalSize_28 rfl (by decide) ?_
        refine g_iinc (nI (i + 1)) dX2_totalSize_29 (by rfl) (nI_inc i) ?_
        refine g_goto (tgt := 4) dX2_totalSize_32 (by decide) ?_
        exact g_lv (ih (i + 1) (by omega)) ⟨rfl, rfl, (by first | exact s_some (s_totN c_17) | exact s_some (s_totY c_17)), rfl, trivial⟩
  refine s_Mt_of rfl (by decide) (by exact Nat.le_of_ble_eq_true rfl) ?_
  refine g_iconst 0 dX2_totalSize_0 (by rfl) ?_
  refine g_istore_n dX2_totalSize_1 rfl (by decide) ?_
  refine g_iconst 0 dX2_totalSize_2 (by rfl) ?_
  refine g_istore_n dX2_totalSize_3 rfl (by decide) ?_
  exact g_lv (loop cnt 0 (by omega)) ⟨rfl, rfl, rfl, rfl, trivial⟩

theorem c_X2_totalWeight {h : s_H} {n d cnt : Nat} {σ : s_D} (hD : s_disk h d σ) (hn : d + 4 < n) (hc : σ.2 0 = nI cnt) (hc14 : cnt ≤ 14) (set : Int32) : s_Mt TX2_totalWeight 0 0 [.ref d, .int set] h n (s_re (some (.int (d_tot (d_wt σ) set cnt))) h n) := by
  obtain ⟨hd, q1, q2, q3, q4⟩ := hD
  rw [hc] at hd
  have loop : ∀ k i : Nat, i + k = cnt → s_G TX2_totalWeight (s_re (some (.int (d_tot (d_wt σ) set cnt))) h n) 4 (s_lvs [(0, .ref d), (1, .int set), (2, .int (d_tot (d_wt σ) set i)), (3, .int (nI i))]) [] h n 0 0 := by
    intro k
    induction k with
    | zero =>
      intro i hi
      obtain rfl : i = cnt := by omega
      refine g_iload_n dX2_totalWeight_4 rfl (by rfl) ?_
      refine g_aload_n dX2_totalWeight_5 rfl (by rfl) ?_
      refine g_getf dX2_totalWeight_6 fX2_24 (by exact hd) (by omega) (by rfl) ?_
      refine g_icmp_ge (tgt := 34) dX2_totalWeight_9 (by decide) (fun _ => ?_) (fun c_9 => absurd (nI_le (by omega) (by omega)) c_9)
      refine g_iload_n dX2_totalWeight_34 rfl (by rfl) ?_
      refine g_ireturn dX2_totalWeight_35 rfl ?_
      exact ⟨rfl, rfl, rfl⟩
    | succ k ih =>
      intro i hi
      refine g_iload_n dX2_totalWeight_4 rfl (by rfl) ?_
      refine g_aload_n dX2_totalWeight_5 rfl (by rfl) ?_
      refine g_getf dX2_totalWeight_6 fX2_24 (by exact hd) (by omega) (by rfl) ?_
      refine g_icmp_ge (tgt := 34) dX2_totalWeight_9 (by decide) (fun c_9 => absurd c_9 (nI_ge (by omega) (by omega))) (fun _ => ?_)
      refine g_iload_n dX2_totalWeight_12 rfl (by rfl) ?_
      refine g_iload_n dX2_totalWeight_13 rfl (by rfl) ?_
      refine g_callSN_e (c_X8_contains set (nI i)) dX2_totalWeight_14 (mX8_contains) rfl lX2_46 sX8_contains (by decide) rfl rfl (Nat.le_of_ble_eq_true rfl) ?_
      refine g_if_eq (tgt := 28) dX2_totalWeight_17 (by decide) (fun c_17 => ?_) (fun c_17 => ?_)
      · refine g_iinc (nI (i + 1)) dX2_totalWeight_28 (by rfl) (nI_inc i) ?_
        refine g_goto (tgt := 4) dX2_totalWeight_31 (by decide) ?_
        exact g_lv (ih (i + 1) (by omega)) ⟨rfl, rfl, (by first | exact s_some (s_totN c_17) | exact s_some (s_totY c_17)), rfl, trivial⟩
      · refine g_iload_n dX2_totalWeight_20 rfl (by rfl) ?_
        refine g_aload_n dX2_totalWeight_21 rfl (by rfl) ?_
        refine g_iload_n dX2_totalWeight_22 rfl (by rfl) ?_
        refine g_callV_e (c_X2_weightOf (i := i) ⟨by rw [hc]; exact hd, q1, q2, q3, q4⟩ hn (by omega)) dX2_totalWeight_23 (mX2_weightOf) rfl lX2_50 iX2_weightOf vX2_weightOf (by decide) (by omega) (by exact hd) rfl rfl rfl rfl (Nat.le_of_ble_eq_true rfl) ?_
        refine g_iadd dX2_totalWeight_26 ?_
        refine g_istore_n dX2_totalWeight_27 rfl (by decide) ?_
        refine g_iinc (nI (i + 1)) dX2_totalWeight_28 (by rfl) (nI_inc i) ?_
        refine g_goto (tgt := 4) dX2_totalWeight_31 (by decide) ?_
        exact g_lv (ih (i + 1) (by omega)) ⟨rfl, rfl, (by first | exact s_some (s_totN c_17) | exact s_some (s_totY c_17)), rfl, trivial⟩
  refine s_Mt_of rfl (by decide) (by exact Nat.le_of_ble_eq_true rfl) ?_
  refine g_iconst 0 dX2_totalWeight_0 (by rfl) ?_
  refine g_istore_n dX2_totalWeight_1 rfl (by decide) ?_
  refine g_iconst 0 dX2_totalWeight_2 (by rfl) ?_
  refine g_istore_n dX2_totalWeight_3 rfl (by decide) ?_
  exact g_lv (loop cnt 0 (by omega)) ⟨rfl, rfl, rfl, rfl, trivial⟩
