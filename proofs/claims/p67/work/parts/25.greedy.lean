/-! GREEDY -/
def s_grd (h : s_H) (g : Nat) (o : Nat → Nat) (len : Nat) : Prop := h g = .inr (1, [.ref (g + 1), .int (nI len)]) ∧ ∃ f : Nat → Int32, h (g + 1) = .inl (0, 14, .inl f) ∧ ∀ q, q < len → f q = nI (o q)
theorem s_grd.off {h h1 : s_H} {g len a b : Nat} {o : Nat → Nat} (q : s_grd h g o len) (r : s_off h h1 a b) (hd : g + 2 ≤ a ∨ b ≤ g) : s_grd h1 g o len := by
  obtain ⟨q0, f, q1, q2⟩ := q
  exact ⟨(r _ (by omega)).trans q0, f, (r _ (by omega)).trans q1, q2⟩
/-- whether an item goes before another -/
def g_bf (σ : s_D) (i j : Nat) : Prop := d_wt σ j * σ.1 0 i < d_wt σ i * σ.1 0 j ∨ (d_wt σ i * σ.1 0 j = d_wt σ j * σ.1 0 i ∧ σ.1 0 i < σ.1 0 j)
noncomputable def g_bi (σ : s_D) (i j : Nat) : Int32 := @ite _ (g_bf σ i j) (Classical.propDecidable _) 1 0
theorem g_bi1 {σ : s_D} {i j : Nat} (h : g_bf σ i j) : g_bi σ i j = 1 := by rw [g_bi, if_pos h]
theorem g_bi0 {σ : s_D} {i j : Nat} (h : ¬ g_bf σ i j) : g_bi σ i j = 0 := by rw [g_bi, if_neg h]
theorem g_bi_0 {σ : s_D} {i j : Nat} : g_bi σ i j = 0 ↔ ¬ g_bf σ i j := by
  by_cases h : g_bf σ i j
  · rw [g_bi1 h]; simp [h]
  · rw [g_bi0 h]; simp [h]
/-- where an item goes among the first p of the order -/
noncomputable def g_pl (σ : s_D) (item : Nat) (o : Nat → Nat) : Nat → Nat
  | 0 => 0
  | p + 1 => @ite _ (g_bf σ item (o p)) (Classical.propDecidable _) (g_pl σ item o p) (p + 1)
def g_in (o : Nat → Nat) (p item : Nat) : Nat → Nat := fun q => if q < p then o q else if q = p then item else o (q - 1)
theorem g_pl_y {σ : s_D} {item p : Nat} {o : Nat → Nat} (h : g_bf σ item (o p)) : g_pl σ item o (p + 1) = g_pl σ item o p := by rw [g_pl, if_pos h]
theorem g_pl_n {σ : s_D} {item p : Nat} {o : Nat → Nat} (h : ¬ g_bf σ item (o p)) : g_pl σ item o (p + 1) = p + 1 := by rw [g_pl, if_neg h]
noncomputable def g_srt (σ : s_D) : Nat → (Nat → Nat) × Nat
  | 0 => (fun _ => 0, 0)
  | i + 1 => if σ.1 3 i = 0 then (g_in (g_srt σ i).1 (g_pl σ i (g_srt σ i).1 (g_srt σ i).2) i, (g_srt σ i).2 + 1) else g_srt σ i
theorem g_srt_len {σ : s_D} : ∀ i, (g_srt σ i).2 ≤ i
  | 0 => Nat.le_refl _
  | i + 1 => by
    have ih := g_srt_len (σ := σ) i
    rw [g_srt]
    split
    · exact Nat.succ_le_succ ih
    · exact Nat.le_succ_of_le ih
theorem g_srt_lt {σ : s_D} : ∀ i q, q < (g_srt σ i).2 → (g_srt σ i).1 q < i
  | 0, q, h => by cases h
  | i + 1, q, h => by
    have ih := g_srt_lt (σ := σ) i
    rw [g_srt] at h ⊢
    split
    · rename_i hs
      rw [if_pos hs] at h
      simp only [g_in] at h ⊢
      have hl : g_pl σ i (g_srt σ i).1 (g_srt σ i).2 ≤ (g_srt σ i).2 := by
        generalize (g_srt σ i).2 = L
        induction L with
        | zero => exact Nat.le_refl _
        | succ L ihL =>
          by_cases hb : g_bf σ i ((g_srt σ i).1 L)
          · rw [g_pl_y hb]; omega
          · rw [g_pl_n hb]; omega
      split
      · have := ih q (by omega); omega
      · split
        · omega
        · have := ih (q - 1) (by omega); omega
    · rename_i hs
      rw [if_neg hs] at h
      have := ih q h
      omega
/-- what fits, in the order -/
def g_tf (σ : s_D) (o : Nat → Nat) (s0 r0 : Int32) : Nat → Int32 × Int32
  | 0 => (s0, r0)
  | q + 1 => if (g_tf σ o s0 r0 q).2 < σ.1 0 (o q) then g_tf σ o s0 r0 q else ((g_tf σ o s0 r0 q).1 ||| ((1 : Int32) <<< (nI (o q) &&& 31)), (g_tf σ o s0 r0 q).2 - σ.1 0 (o q))
def g_bd (σ : s_D) (o : Nat → Nat) : Nat → Nat → Int32 → Int32 → Int32
  | 0, _, w, _ => w
  | k + 1, q, w, r => if r < σ.1 0 (o q) ∧ 0 < σ.1 0 (o q) then w + d_wt σ (o q) * r / σ.1 0 (o q) else g_bd σ o k (q + 1) (w + d_wt σ (o q)) (r - σ.1 0 (o q))

theorem c_X3_isBefore {h : s_H} {n d i j : Nat} {σ : s_D} (hD : s_disk h d σ) (hn : d + 4 < n) (hi : i < 14) (hj : j < 14) : s_Mt TX3_isBefore 0 0 [.ref d, .int (nI i), .int (nI j)] h n (s_re (some (.int (g_bi σ i j))) h n) := by
  obtain ⟨hd, q1, q2, q3, q4⟩ := hD
  refine s_Mt_of rfl (by decide) (by exact Nat.le_of_ble_eq_true rfl) ?_
  refine g_aload_n dX3_isBefore_0 rfl (by rfl) ?_
  refine g_iload_n dX3_isBefore_1 rfl (by rfl) ?_
  refine g_callV_e (c_X2_weightOf (i := i) ⟨hd, q1, q2, q3, q4⟩ hn hi) dX3_isBefore_2 (mX2_weightOf) rfl lX3_35 iX2_weightOf vX2_weightOf (by decide) (by omega) (by exact hd) rfl rfl rfl rfl (Nat.le_of_ble_eq_true rfl) ?_
  refine g_aload_n dX3_isBefore_5 rfl (by rfl) ?_
  refine g_getf dX3_isBefore_6 fX3_39 (by exact hd) (by omega) (by rfl) ?_
  refine g_iload_n dX3_isBefore_9 rfl (by rfl) ?_
  refine g_iald dX3_isBefore_10 (by first | exact q1 | exact q2 | exact q3 | exact q4) (by omega) (by rfl) (by omega) (by omega) ?_
  refine g_imul dX3_isBefore_11 ?_
  refine g_istore_n dX3_isBefore_12 rfl (by decide) ?_
  refine g_aload_n dX3_isBefore_13 rfl (by rfl) ?_
  refine g_iload_n dX3_isBefore_14 rfl (by rfl) ?_
  refine g_callV_e (c_X2_weightOf (i := j) ⟨hd, q1, q2, q3, q4⟩ hn hj) dX3_isBefore_15 (mX2_weightOf) rfl lX3_35 iX2_weightOf vX2_weightOf (by decide) (by omega) (by exact hd) rfl rfl rfl rfl (Nat.le_of_ble_eq_true rfl) ?_
  refine g_aload_n dX3_isBefore_18 rfl (by rfl) ?_
  refine g_getf dX3_isBefore_19 fX3_39 (by exact hd) (by omega) (by rfl) ?_
  refine g_iload_n dX3_isBefore_22 rfl (by rfl) ?_
  refine g_iald dX3_isBefore_23 (by first | exact q1 | exact q2 | exact q3 | exact q4) (by omega) (by rfl) (by omega) (by omega) ?_
  refine g_imul dX3_isBefore_24 ?_
  refine g_istore dX3_isBefore_25 (by decide) ?_
  refine g_iload_n dX3_isBefore_27 rfl (by rfl) ?_
  refine g_iload dX3_isBefore_28 (by rfl) ?_
  refine g_icmp_gt (tgt := 54) dX3_isBefore_30 (by decide) (fun c_30 => ?_) (fun c_30 => ?_)
  · refine g_iconst 1 dX3_isBefore_54 (by rfl) ?_
    refine g_goto (tgt := 59) dX3_isBefore_55 (by decide) ?_
    refine g_zreturn dX3_isBefore_59 rfl (by decide) ?_
    first
      | exact ⟨by rw [g_bi1 (Or.inl c_30)], rfl, rfl⟩
      | exact ⟨by rw [g_bi1 (Or.inr ⟨c_36, Int32.not_le.mp c_51⟩)], rfl, rfl⟩
      | exact ⟨by rw [g_bi0 (fun z => z.elim (fun y => c_30 y) (fun y => c_36 y.1))], rfl, rfl⟩
      | exact ⟨by rw [g_bi0 (fun z => z.elim (fun y => c_30 y) (fun y => absurd c_51 (Int32.not_le.mpr y.2)))], rfl, rfl⟩
  · refine g_iload_n dX3_isBefore_33 rfl (by rfl) ?_
    refine g_iload dX3_isBefore_34 (by rfl) ?_
    refine g_icmp_ne (tgt := 58) dX3_isBefore_36 (by decide) (fun c_36 => ?_) (fun c_36 => ?_)
    · refine g_iconst 0 dX3_isBefore_58 (by rfl) ?_
      refine g_zreturn dX3_isBefore_59 rfl (by decide) ?_
      first
        | exact ⟨by rw [g_bi1 (Or.inl c_30)], rfl, rfl⟩
        | exact ⟨by rw [g_bi1 (Or.inr ⟨c_36, Int32.not_le.mp c_51⟩)], rfl, rfl⟩
        | exact ⟨by rw [g_bi0 (fun z => z.elim (fun y => c_30 y) (fun y => c_36 y.1))], rfl, rfl⟩
        | exact ⟨by rw [g_bi0 (fun z => z.elim (fun y => c_30 y) (fun y => absurd c_51 (Int32.not_le.mpr y.2)))], rfl, rfl⟩
    · refine g_aload_n dX3_isBefore_39 rfl (by rfl) ?_
      refine g_getf dX3_isBefore_40 fX3_39 (by exact hd) (by omega) (by rfl) ?_
      refine g_iload_n dX3_isBefore_43 rfl (by rfl) ?_
      refine g_iald dX3_isBefore_44 (by first | exact q1 | exact q2 | exact q3 | exact q4) (by omega) (by rfl) (by omega) (by omega) ?_
      refine g_aload_n dX3_isBefore_45 rfl (by rfl) ?_
      refine g_getf dX3_isBefore_46 fX3_39 (by exact hd) (by omega) (by rfl) ?_
      refine g_iload_n dX3_isBefore_49 rfl (by rfl) ?_
      refine g_iald dX3_isBefore_50 (by first | exact q1 | exact q2 | exact q3 | exact q4) (by omega) (by rfl) (by omega) (by omega) ?_
      refine g_icmp_ge (tgt := 58) dX3_isBefore_51 (by decide) (fun c_51 => ?_) (fun c_51 => ?_)
      · refine g_iconst 0 dX3_isBefore_58 (by rfl) ?_
        refine g_zreturn dX3_isBefore_59 rfl (by decide) ?_
        first
          | exact ⟨by rw [g_bi1 (Or.inl c_30)], rfl, rfl⟩
          | exact ⟨by rw [g_bi1 (Or.inr ⟨c_36, Int32.not_le.mp c_51⟩)], rfl, rfl⟩
          | exact ⟨by rw [g_bi0 (fun z => z.elim (fun y => c_30 y) (fun y => c_36 y.1))], rfl, rfl⟩
          | exact ⟨by rw [g_bi0 (fun z => z.elim (fun y => c_30 y) (fun y => absurd c_51 (Int32.not_le.mpr y.2)))], rfl, rfl⟩
      · refine g_iconst 1 dX3_isBefore_54 (by rfl) ?_
        refine g_goto (tgt := 59) dX3_isBefore_55 (by decide) ?_
        refine g_zreturn dX3_isBefore_59 rfl (by decide) ?_
        first
          | exact ⟨by rw [g_bi1 (Or.inl c_30)], rfl, rfl⟩
          | exact ⟨by rw [g_bi1 (Or.inr ⟨c_36, Int32.not_le.mp c_51⟩)], rfl, rfl⟩
          | exact ⟨by rw [g_bi0 (fun z => z.elim (fun y => c_30 y) (fun y => c_36 y.1))], rfl, rfl⟩
          | exact ⟨by rw [g_bi0 (fun z => z.elim (fun y => c_30 y) (fun y => absurd c_51 (Int32.not_le.mpr y.2)))], rfl, rfl⟩

theorem c_X3_insert {h : s_H} {n g d item len : Nat} {o : Nat → Nat} {σ : s_D} (hG : s_grd h g o len) (hD : s_disk h d σ) (hn : g + 1 < n) (hnd : d + 4 < n) (hdg : d + 5 ≤ g ∨ g + 2 ≤ d) (hlen : len < 14) (hi : item < 14) (ho : ∀ q, q < len → o q < 14) : s_Mt TX3_insert 0 0 [.ref g, .ref d, .int (nI item)] h n (s_rp n (fun v9 h1 => v9 = none ∧ s_grd h1 g (g_in o (g_pl σ item o len) item) (len + 1) ∧ s_off h h1 g (g + 2)) s_no) := by
  have loop : ∀ (p : Nat) (h' : s_H), p ≤ len → g_pl σ item o len = g_pl σ item o p → h' g = .inr (1, [.ref (g + 1), .int (nI len)]) → s_disk h' d σ → ∀ f : Nat → Int32, h' (g + 1) = .inl (0, 14, .inl f) → (∀ q, q < p → f q = nI (o q)) → (∀ q, p < q → q ≤ len → f q = nI (o (q - 1))) → s_off h h' g (g + 2) → s_G TX3_insert (s_rp n (fun v9 h1 => v9 = none ∧ s_grd h1 g (g_in o (g_pl σ item o len) item) (len + 1) ∧ s_off h h1 g (g + 2)) s_no) 5 (s_lvs [(0, .ref g), (1, .ref d), (2, .int (nI item)), (3, .int (nI p))]) [] h' n 0 0 := by
    intro p
    induction p with
    | zero =>
      intro h' hp hpl0 hg hD f qo hlo hhi hoff
      have hpl : g_pl σ item o len = 0 := hpl0
      obtain ⟨hd, q1, q2, q3, q4⟩ := hD
      refine g_iload_n dX3_insert_5 rfl (by rfl) ?_
      refine g_if_le (tgt := 45) dX3_insert_6 (by decide) (fun _ => ?_) (fun c_6 => absurd (show nI 0 ≤ 0 by decide) c_6)
      refine g_aload_n dX3_insert_45 rfl (by rfl) ?_
      refine g_getf dX3_insert_46 fX3_9 (by exact hg) (by omega) (by rfl) ?_
      refine g_iload_n dX3_insert_49 rfl (by rfl) ?_
      refine g_iload_n dX3_insert_50 rfl (by rfl) ?_
      refine g_iast' dX3_insert_51 (by exact qo) (by omega) (by rfl) (by omega) (by omega) (fun h1 e1 => ?_)
      first | have hg_1 := s_up_off e1 (by omega) hg | have hg_1 := s_up_at e1
      first | have qo_1 := s_up_off e1 (by omega) qo | have qo_1 := s_up_at e1
      first | have hd_1 := s_up_off e1 (by omega) hd | have hd_1 := s_up_at e1
      refine g_aload_n dX3_insert_52 rfl (by rfl) ?_
      refine g_dup dX3_insert_53 (by rfl) ?_
      refine g_getf dX3_insert_54 fX3_15 (by exact hg_1) (by omega) (by rfl) ?_
      refine g_iconst 1 dX3_insert_57 (by rfl) ?_
      refine g_iadd dX3_insert_58 ?_
      refine g_putf' dX3_insert_59 pX3_15 (by exact hg_1) (by omega) (by exact Nat.le_of_ble_eq_true rfl) (by rfl) (by rfl) (fun h2 e2 => ?_)
      first | have hg_2 := s_up_off e2 (by omega) hg_1 | have hg_2 := s_up_at e2
      first | have qo_2 := s_up_off e2 (by omega) qo_1 | have qo_2 := s_up_at e2
      first | have hd_2 := s_up_off e2 (by omega) hd_1 | have hd_2 := s_up_at e2
      refine g_vreturn dX3_insert_62 rfl ?_
      have z9 := hg_2
      rw [nI_1] at z9
      refine ⟨rfl, rfl, ⟨z9, _, qo_2, ?_⟩, ((hoff.up e1 (by omega)).up e2 (by omega))⟩
      intro q hq
      rw [hpl]
      simp only [upd, g_in]
      by_cases e1 : q = 0
      · rw [if_pos e1, if_neg (by omega), if_pos e1]
      · rw [if_neg e1]
        by_cases e2 : q < 0
        · rw [if_pos e2]
          exact hlo q e2
        · rw [if_neg e2, if_neg e1]
          exact hhi q (by omega) (by omega)
    | succ p ih =>
      intro h' hp hpl0 hg hD f qo hlo hhi hoff
      obtain ⟨hd, q1, q2, q3, q4⟩ := hD
      refine g_iload_n dX3_insert_5 rfl (by rfl) ?_
      refine g_if_le (tgt := 45) dX3_insert_6 (by decide) (fun c_6 => absurd c_6 (nI_nle (by omega) (by omega))) (fun _ => ?_)
      refine g_aload_n dX3_insert_9 rfl (by rfl) ?_
      refine g_iload_n dX3_insert_10 rfl (by rfl) ?_
      refine g_aload_n dX3_insert_11 rfl (by rfl) ?_
      refine g_getf dX3_insert_12 fX3_9 (by exact hg) (by omega) (by rfl) ?_
      refine g_iload_n dX3_insert_15 rfl (by rfl) ?_
      refine g_iconst 1 dX3_insert_16 (by rfl) ?_
      refine g_isub dX3_insert_17 ?_
      refine g_iald dX3_insert_18 (by first | exact qo | exact q1 | exact q2 | exact q3 | exact q4) (by omega) (by exact nI_pred p) (by omega) (by omega) ?_
      rw [hlo p (by omega)]
      refine g_callS_e (c_X3_isBefore (i := item) (j := o p) ⟨hd, q1, q2, q3, q4⟩ hnd hi (ho p (by omega))) dX3_insert_19 (mX3_isBefore) rfl lX3_31 sX3_isBefore (by decide) rfl rfl (Nat.le_of_ble_eq_true rfl) ?_
      refine g_if_eq (tgt := 45) dX3_insert_22 (by decide) (fun c_22 => ?_) (fun c_22 => ?_)
      · have hpl : g_pl σ item o len = p + 1 := hpl0.trans (g_pl_n (g_bi_0.mp c_22))
        refine g_aload_n dX3_insert_45 rfl (by rfl) ?_
        refine g_getf dX3_insert_46 fX3_9 (by exact hg) (by omega) (by rfl) ?_
        refine g_iload_n dX3_insert_49 rfl (by rfl) ?_
        refine g_iload_n dX3_insert_50 rfl (by rfl) ?_
        refine g_iast' dX3_insert_51 (by first | exact qo | exact q1 | exact q2 | exact q3 | exact q4) (by omega) (by rfl) (by omega) (by omega) (fun h1 e1 => ?_)
        first | have hg_1 := s_up_off e1 (by omega) hg | have hg_1 := s_up_at e1
        first | have qo_1 := s_up_off e1 (by omega) qo | have qo_1 := s_up_at e1
        first | have q1_1 := s_up_off e1 (by omega) q1 | have q1_1 := s_up_at e1
        first | have q2_1 := s_up_off e1 (by omega) q2 | have q2_1 := s_up_at e1
        first | have q3_1 := s_up_off e1 (by omega) q3 | have q3_1 := s_up_at e1
        first | have q4_1 := s_up_off e1 (by omega) q4 | have q4_1 := s_up_at e1
        first | have hd_1 := s_up_off e1 (by omega) hd | have hd_1 := s_up_at e1
        refine g_aload_n dX3_insert_52 rfl (by rfl) ?_
        refine g_dup dX3_insert_53 (by rfl) ?_
        refine g_getf dX3_insert_54 fX3_15 (by exact hg_1) (by omega) (by rfl) ?_
        refine g_iconst 1 dX3_insert_57 (by rfl) ?_
        refine g_iadd dX3_insert_58 ?_
        refine g_putf' dX3_insert_59 pX3_15 (by exact hg_1) (by omega) (by exact Nat.le_of_ble_eq_true rfl) (by rfl) (by rfl) (fun h2 e2 => ?_)
        first | have hg_2 := s_up_off e2 (by omega) hg_1 | have hg_2 := s_up_at e2
        first | have qo_2 := s_up_off e2 (by omega) qo_1 | have qo_2 := s_up_at e2
        first | have q1_2 := s_up_off e2 (by omega) q1_1 | have q1_2 := s_up_at e2
        first | have q2_2 := s_up_off e2 (by omega) q2_1 | have q2_2 := s_up_at e2
        first | have q3_2 := s_up_off e2 (by omega) q3_1 | have q3_2 := s_up_at e2
        first | have q4_2 := s_up_off e2 (by omega) q4_1 | have q4_2 := s_up_at e2
        first | have hd_2 := s_up_off e2 (by omega) hd_1 | have hd_2 := s_up_at e2
        refine g_vreturn dX3_insert_62 rfl ?_
        have z9 := hg_2
        rw [nI_1] at z9
        refine ⟨rfl, rfl, ⟨z9, _, qo_2, ?_⟩, ((hoff.up e1 (by omega)).up e2 (by omega))⟩
        intro q hq
        rw [hpl]
        simp only [upd, g_in]
        by_cases e1 : q = (p + 1)
        · rw [if_pos e1, if_neg (by omega), if_pos e1]
        · rw [if_neg e1]
          by_cases e2 : q < (p + 1)
          · rw [if_pos e2]
            exact hlo q e2
          · rw [if_neg e2, if_neg e1]
            exact hhi q (by omega) (by omega)
      · have hbf : g_bf σ item (o p) := Classical.not_not.mp (fun z => c_22 (g_bi_0.mpr z))
        refine g_aload_n dX3_insert_25 rfl (by rfl) ?_
        refine g_getf dX3_insert_26 fX3_9 (by exact hg) (by omega) (by rfl) ?_
        refine g_iload_n dX3_insert_29 rfl (by rfl) ?_
        refine g_aload_n dX3_insert_30 rfl (by rfl) ?_
        refine g_getf dX3_insert_31 fX3_9 (by exact hg) (by omega) (by rfl) ?_
        refine g_iload_n dX3_insert_34 rfl (by rfl) ?_
        refine g_iconst 1 dX3_insert_35 (by rfl) ?_
        refine g_isub dX3_insert_36 ?_
        refine g_iald dX3_insert_37 (by first | exact qo | exact q1 | exact q2 | exact q3 | exact q4) (by omega) (by exact nI_pred p) (by omega) (by omega) ?_
        refine g_iast' dX3_insert_38 (by first | exact qo | exact q1 | exact q2 | exact q3 | exact q4) (by omega) (by rfl) (by omega) (by omega) (fun h3 e3 => ?_)
        first | have hg_3 := s_up_off e3 (by omega) hg | have hg_3 := s_up_at e3
        first | have qo_3 := s_up_off e3 (by omega) qo | have qo_3 := s_up_at e3
        first | have q1_3 := s_up_off e3 (by omega) q1 | have q1_3 := s_up_at e3
        first | have q2_3 := s_up_off e3 (by omega) q2 | have q2_3 := s_up_at e3
        first | have q3_3 := s_up_off e3 (by omega) q3 | have q3_3 := s_up_at e3
        first | have q4_3 := s_up_off e3 (by omega) q4 | have q4_3 := s_up_at e3
        first | have hd_3 := s_up_off e3 (by omega) hd | have hd_3 := s_up_at e3
        refine g_iinc (nI p) dX3_insert_39 (by rfl) (nI_dec p) ?_
        refine g_goto (tgt := 5) dX3_insert_42 (by decide) ?_
        refine g_lv (ih h3 (by omega) (hpl0.trans (g_pl_y hbf)) hg_3 ⟨hd_3, q1_3, q2_3, q3_3, q4_3⟩ _ qo_3 ?_ ?_ (hoff.up e3 (by omega))) ⟨rfl, rfl, rfl, rfl, trivial⟩
        · intro q hq
          rw [upd, if_neg (by omega)]
          exact hlo q (by omega)
        · intro q h1 h2
          rw [upd]
          by_cases e1 : q = p + 1
          · rw [if_pos e1, e1, Nat.add_sub_cancel]
            exact hlo p (by omega)
          · rw [if_neg e1]
            exact hhi q (by omega) h2
  obtain ⟨hg, f, qo, hf⟩ := hG
  refine s_Mt_of rfl (by decide) (by exact Nat.le_of_ble_eq_true rfl) ?_
  refine g_aload_n dX3_insert_0 rfl (by rfl) ?_
  refine g_getf dX3_insert_1 fX3_15 (by exact hg) (by omega) (by rfl) ?_
  refine g_istore_n dX3_insert_4 rfl (by decide) ?_
  exact g_lv (loop len h (Nat.le_refl _) rfl hg hD f qo hf (fun q h1 h2 => absurd h2 (by omega)) s_off.rf) ⟨rfl, rfl, rfl, rfl, trivial⟩

theorem c_X3_sort {h : s_H} {n g d cnt len : Nat} {o : Nat → Nat} {σ : s_D} (hG : s_grd h g o len) (hD : s_disk h d σ) (hn : g + 1 < n) (hnd : d + 4 < n) (hdg : d + 5 ≤ g ∨ g + 2 ≤ d) (hc : σ.2 0 = nI cnt) (hc14 : cnt ≤ 14) : s_Mt TX3_sort 0 0 [.ref g, .ref d] h n (s_rp n (fun v9 h1 => v9 = none ∧ s_grd h1 g (g_srt σ cnt).1 (g_srt σ cnt).2 ∧ s_off h h1 g (g + 2)) s_no) := by
  have loop : ∀ (k i : Nat) (h' : s_H), i + k = cnt → s_grd h' g (g_srt σ i).1 (g_srt σ i).2 → s_disk h' d σ → s_off h h' g (g + 2) → s_G TX3_sort (s_rp n (fun v9 h1 => v9 = none ∧ s_grd h1 g (g_srt σ cnt).1 (g_srt σ cnt).2 ∧ s_off h h1 g (g + 2)) s_no) 7 (s_lvs [(0, .ref g), (1, .ref d), (2, .int (nI i))]) [] h' n 0 0 := by
    intro k
    induction k with
    | zero =>
      intro i h' hk hG hD hoff
      obtain rfl : i = cnt := by omega
      obtain ⟨hd, q1, q2, q3, q4⟩ := hD
      rw [hc] at hd
      refine g_iload_n dX3_sort_7 rfl (by rfl) ?_
      refine g_aload_n dX3_sort_8 rfl (by rfl) ?_
      refine g_getf dX3_sort_9 fX3_19 (by exact hd) (by omega) (by rfl) ?_
      refine g_icmp_ge (tgt := 36) dX3_sort_12 (by decide) (fun _ => ?_) (fun c_12 => absurd (nI_le (by omega) (by omega)) c_12)
      refine g_vreturn dX3_sort_36 rfl ?_
      exact ⟨rfl, rfl, hG, hoff⟩
    | succ k ih =>
      intro i h' hk hG hD9 hoff
      obtain ⟨hd, q1, q2, q3, q4⟩ := id hD9
      rw [hc] at hd
      refine g_iload_n dX3_sort_7 rfl (by rfl) ?_
      refine g_aload_n dX3_sort_8 rfl (by rfl) ?_
      refine g_getf dX3_sort_9 fX3_19 (by exact hd) (by omega) (by rfl) ?_
      refine g_icmp_ge (tgt := 36) dX3_sort_12 (by decide) (fun c_12 => absurd c_12 (nI_ge (by omega) (by omega))) (fun _ => ?_)
      refine g_aload_n dX3_sort_15 rfl (by rfl) ?_
      refine g_getf dX3_sort_16 fX3_24 (by exact hd) (by omega) (by rfl) ?_
      refine g_iload_n dX3_sort_19 rfl (by rfl) ?_
      refine g_iald dX3_sort_20 (by first | exact q1 | exact q2 | exact q3 | exact q4) (by omega) (by rfl) (by omega) (by omega) ?_
      refine g_if_ne (tgt := 30) dX3_sort_21 (by decide) (fun c_21 => ?_) (fun c_21 => ?_)
      · refine g_iinc (nI (i + 1)) dX3_sort_30 (by rfl) (nI_inc i) ?_
        refine g_goto (tgt := 7) dX3_sort_33 (by decide) ?_
        first
          | exact g_lv (ih (i + 1) h9 (by omega) (by rw [g_srt, if_pos c_21]; exact qg) (hD9.off qoff (by omega)) (hoff.trans qoff)) ⟨rfl, rfl, rfl, trivial⟩
          | exact g_lv (ih (i + 1) h' (by omega) (by rw [g_srt, if_neg c_21]; exact hG) hD9 hoff) ⟨rfl, rfl, rfl, trivial⟩
      · refine g_aload_n dX3_sort_24 rfl (by rfl) ?_
        refine g_aload_n dX3_sort_25 rfl (by rfl) ?_
        refine g_iload_n dX3_sort_26 rfl (by rfl) ?_
        refine g_callV_p (c_X3_insert (item := i) hG hD9 hn hnd hdg (Nat.lt_of_le_of_lt (g_srt_len i) (by omega)) (by omega) (fun q hq => Nat.lt_trans (g_srt_lt i q hq) (by omega))) dX3_sort_27 (mX3_insert) rfl lX3_27 iX3_insert vX3_insert (by decide) (by omega) (by exact hG.1) rfl rfl rfl rfl (Nat.le_of_ble_eq_true rfl) (fun v9 h9 q9 => ?_)
        obtain ⟨rfl, qg, qoff⟩ := q9
        refine g_iinc (nI (i + 1)) dX3_sort_30 (by rfl) (nI_inc i) ?_
        refine g_goto (tgt := 7) dX3_sort_33 (by decide) ?_
        first
          | exact g_lv (ih (i + 1) h9 (by omega) (by rw [g_srt, if_pos c_21]; exact qg) (hD9.off qoff (by omega)) (hoff.trans qoff)) ⟨rfl, rfl, rfl, trivial⟩
          | exact g_lv (ih (i + 1) h' (by omega) (by rw [g_srt, if_neg c_21]; exact hG) hD9 hoff) ⟨rfl, rfl, rfl, trivial⟩
  obtain ⟨hg, f, qo, hf⟩ := hG
  obtain ⟨hd, q1, q2, q3, q4⟩ := hD
  refine s_Mt_of rfl (by decide) (by exact Nat.le_of_ble_eq_true rfl) ?_
  refine g_aload_n dX3_sort_0 rfl (by rfl) ?_
  refine g_iconst 0 dX3_sort_1 (by rfl) ?_
  refine g_putf' dX3_sort_2 pX3_15 (by exact hg) (by omega) (by exact Nat.le_of_ble_eq_true rfl) (by rfl) (by rfl) (fun h1 e1 => ?_)
  first | have hg_1 := s_up_off e1 (by omega) hg | have hg_1 := s_up_at e1
  first | have qo_1 := s_up_off e1 (by omega) qo | have qo_1 := s_up_at e1
  first | have q1_1 := s_up_off e1 (by omega) q1 | have q1_1 := s_up_at e1
  first | have q2_1 := s_up_off e1 (by omega) q2 | have q2_1 := s_up_at e1
  first | have q3_1 := s_up_off e1 (by omega) q3 | have q3_1 := s_up_at e1
  first | have q4_1 := s_up_off e1 (by omega) q4 | have q4_1 := s_up_at e1
  first | have hd_1 := s_up_off e1 (by omega) hd | have hd_1 := s_up_at e1
  refine g_iconst 0 dX3_sort_5 (by rfl) ?_
  refine g_istore_n dX3_sort_6 rfl (by decide) ?_
  exact g_lv (loop cnt 0 h1 (by omega) ⟨hg_1, f, qo_1, fun q hq => by cases hq⟩ ⟨hd_1, q1_1, q2_1, q3_1, q4_1⟩ ((s_off.rf (a := g) (b := g + 2)).up e1 (by omega))) ⟨rfl, rfl, rfl, trivial⟩

theorem c_X3_takeFitting {h : s_H} {n g d cnt len : Nat} {o : Nat → Nat} {σ : s_D} (hG : s_grd h g o len) (hD : s_disk h d σ) (hn : g + 1 < n) (hnd : d + 4 < n) (hc : σ.2 0 = nI cnt) (hc14 : cnt ≤ 14) (hlen : len ≤ 14) (ho : ∀ q, q < len → o q < 14) : s_Mt TX3_takeFitting 0 0 [.ref g, .ref d] h n (s_re (some (.int (g_tf σ o (d_set σ 1 cnt) (d_room σ cnt) len).1)) h n) := by
  obtain ⟨hg, f, qo, hf⟩ := hG
  obtain ⟨hd, q1, q2, q3, q4⟩ := hD
  have loop : ∀ (k q : Nat), q + k = len → s_G TX3_takeFitting (s_re (some (.int (g_tf σ o (d_set σ 1 cnt) (d_room σ cnt) len).1)) h n) 14 (s_lvs [(0, .ref g), (1, .ref d), (2, .int (g_tf σ o (d_set σ 1 cnt) (d_room σ cnt) q).1), (3, .int (g_tf σ o (d_set σ 1 cnt) (d_room σ cnt) q).2), (4, .int (nI q))]) [] h n 0 0 := by
    intro k
    induction k with
    | zero =>
      intro q hk
      obtain rfl : q = len := by omega
      refine g_iload dX3_takeFitting_14 (by rfl) ?_
      refine g_aload_n dX3_takeFitting_16 rfl (by rfl) ?_
      refine g_getf dX3_takeFitting_17 fX3_15 (by exact hg) (by omega) (by rfl) ?_
      refine g_icmp_ge (tgt := 66) dX3_takeFitting_20 (by decide) (fun _ => ?_) (fun c_20 => absurd (nI_le (by omega) (by omega)) c_20)
      refine g_iload_n dX3_takeFitting_66 rfl (by rfl) ?_
      refine g_ireturn dX3_takeFitting_67 rfl ?_
      exact ⟨rfl, rfl, rfl⟩
    | succ k ih =>
      intro q hk
      refine g_iload dX3_takeFitting_14 (by rfl) ?_
      refine g_aload_n dX3_takeFitting_16 rfl (by rfl) ?_
      refine g_getf dX3_takeFitting_17 fX3_15 (by exact hg) (by omega) (by rfl) ?_
      refine g_icmp_ge (tgt := 66) dX3_takeFitting_20 (by decide) (fun c_20 => absurd c_20 (nI_ge (by omega) (by omega))) (fun _ => ?_)
      refine g_aload_n dX3_takeFitting_23 rfl (by rfl) ?_
      refine g_getf dX3_takeFitting_24 fX3_9 (by exact hg) (by omega) (by rfl) ?_
      refine g_iload dX3_takeFitting_27 (by rfl) ?_
      refine g_iald dX3_takeFitting_29 (by first | exact qo | exact q1 | exact q2 | exact q3 | exact q4) (by omega) (by rfl) (by omega) (by omega) ?_
      rw [hf q (by omega)]
      refine g_istore dX3_takeFitting_30 (by decide) ?_
      refine g_aload_n dX3_takeFitting_32 rfl (by rfl) ?_
      refine g_getf dX3_takeFitting_33 fX3_39 (by exact hd) (by omega) (by rfl) ?_
      refine g_iload dX3_takeFitting_36 (by rfl) ?_
      refine g_iald dX3_takeFitting_38 (by first | exact qo | exact q1 | exact q2 | exact q3 | exact q4) (by omega) (by rfl) (ho q (by omega)) (by omega) ?_
      refine g_iload_n dX3_takeFitting_39 rfl (by rfl) ?_
      refine g_icmp_gt (tgt := 60) dX3_takeFitting_40 (by decide) (fun c_40 => ?_) (fun c_40 => ?_)
      · refine g_iinc (nI (q + 1)) dX3_takeFitting_60 (by rfl) (nI_inc q) ?_
        refine g_goto (tgt := 14) dX3_takeFitting_63 (by decide) ?_
        first
          | exact g_lv (ih (q + 1) (by omega)) ⟨rfl, rfl, by simp only [g_tf, if_pos c_40]; rfl, by simp only [g_tf, if_pos c_40]; rfl, rfl, trivial⟩
          | exact g_lv (ih (q + 1) (by omega)) ⟨rfl, rfl, by simp only [g_tf, if_neg c_40]; rfl, by simp only [g_tf, if_neg c_40]; rfl, rfl, trivial⟩
      · refine g_iload_n dX3_takeFitting_43 rfl (by rfl) ?_
        refine g_iconst 1 dX3_takeFitting_44 (by rfl) ?_
        refine g_iload dX3_takeFitting_45 (by rfl) ?_
        refine g_ishl dX3_takeFitting_47 ?_
        refine g_ior dX3_takeFitting_48 ?_
        refine g_istore_n dX3_takeFitting_49 rfl (by decide) ?_
        refine g_iload_n dX3_takeFitting_50 rfl (by rfl) ?_
        refine g_aload_n dX3_takeFitting_51 rfl (by rfl) ?_
        refine g_getf dX3_takeFitting_52 fX3_39 (by exact hd) (by omega) (by rfl) ?_
        refine g_iload dX3_takeFitting_55 (by rfl) ?_
        refine g_iald dX3_takeFitting_57 (by first | exact qo | exact q1 | exact q2 | exact q3 | exact q4) (by omega) (by rfl) (ho q (by omega)) (by omega) ?_
        refine g_isub dX3_takeFitting_58 ?_
        refine g_istore_n dX3_takeFitting_59 rfl (by decide) ?_
        refine g_iinc (nI (q + 1)) dX3_takeFitting_60 (by rfl) (nI_inc q) ?_
        refine g_goto (tgt := 14) dX3_takeFitting_63 (by decide) ?_
        first
          | exact g_lv (ih (q + 1) (by omega)) ⟨rfl, rfl, by simp only [g_tf, if_pos c_40]; rfl, by simp only [g_tf, if_pos c_40]; rfl, rfl, trivial⟩
          | exact g_lv (ih (q + 1) (by omega)) ⟨rfl, rfl, by simp only [g_tf, if_neg c_40]; rfl, by simp only [g_tf, if_neg c_40]; rfl, rfl, trivial⟩
  refine s_Mt_of rfl (by decide) (by exact Nat.le_of_ble_eq_true rfl) ?_
  refine g_aload_n dX3_takeFitting_0 rfl (by rfl) ?_
  refine g_iconst 1 dX3_takeFitting_1 (by rfl) ?_
  refine g_callV_e (c_X2_setOf (cnt := cnt) ⟨hd, q1, q2, q3, q4⟩ hnd hc hc14 1) dX3_takeFitting_2 (mX2_setOf) rfl lX3_42 iX2_setOf vX2_setOf (by decide) (by omega) (by exact hd) rfl rfl rfl rfl (Nat.le_of_ble_eq_true rfl) ?_
  refine g_istore_n dX3_takeFitting_5 rfl (by decide) ?_
  refine g_aload_n dX3_takeFitting_6 rfl (by rfl) ?_
  refine g_callV_e (c_X2_room (cnt := cnt) ⟨hd, q1, q2, q3, q4⟩ hnd hc hc14) dX3_takeFitting_7 (mX2_room) rfl lX3_45 iX2_room vX2_room (by decide) (by omega) (by exact hd) rfl rfl rfl rfl (Nat.le_of_ble_eq_true rfl) ?_
  refine g_istore_n dX3_takeFitting_10 rfl (by decide) ?_
  refine g_iconst 0 dX3_takeFitting_11 (by rfl) ?_
  refine g_istore dX3_takeFitting_12 (by decide) ?_
  exact g_lv (loop len 0 (by omega)) ⟨rfl, rfl, rfl, rfl, rfl, trivial⟩

theorem c_X3_bound {h : s_H} {n g d cnt len : Nat} {o : Nat → Nat} {σ : s_D} (hG : s_grd h g o len) (hD : s_disk h d σ) (hn : g + 1 < n) (hnd : d + 4 < n) (hc : σ.2 0 = nI cnt) (hc14 : cnt ≤ 14) (hlen : len ≤ 14) (ho : ∀ q, q < len → o q < 14) : s_Mt TX3_bound 0 0 [.ref g, .ref d] h n (s_re (some (.int (g_bd σ o len 0 (d_tot (d_wt σ) (d_set σ 1 cnt) cnt) (d_room σ cnt)))) h n) := by
  obtain ⟨hg, f, qo, hf⟩ := hG
  obtain ⟨hd, q1, q2, q3, q4⟩ := hD
  have loop : ∀ (k q : Nat) (w r : Int32), q + k = len → g_bd σ o k q w r = g_bd σ o len 0 (d_tot (d_wt σ) (d_set σ 1 cnt) cnt) (d_room σ cnt) → s_G TX3_bound (s_re (some (.int (g_bd σ o len 0 (d_tot (d_wt σ) (d_set σ 1 cnt) cnt) (d_room σ cnt)))) h n) 18 (s_lvs [(0, .ref g), (1, .ref d), (2, .int w), (3, .int r), (4, .int (nI q))]) [] h n 0 0 := by
    intro k
    induction k with
    | zero =>
      intro q w r hk hw
      obtain rfl : q = len := by omega
      refine g_iload dX3_bound_18 (by rfl) ?_
      refine g_aload_n dX3_bound_20 rfl (by rfl) ?_
      refine g_getf dX3_bound_21 fX3_15 (by exact hg) (by omega) (by rfl) ?_
      refine g_icmp_ge (tgt := 90) dX3_bound_24 (by decide) (fun _ => ?_) (fun c_24 => absurd (nI_le (by omega) (by omega)) c_24)
      refine g_iload_n dX3_bound_90 rfl (by rfl) ?_
      refine g_ireturn dX3_bound_91 rfl ?_
      exact ⟨by rw [← hw]; rfl, rfl, rfl⟩
    | succ k ih =>
      intro q w r hk hw
      refine g_iload dX3_bound_18 (by rfl) ?_
      refine g_aload_n dX3_bound_20 rfl (by rfl) ?_
      refine g_getf dX3_bound_21 fX3_15 (by exact hg) (by omega) (by rfl) ?_
      refine g_icmp_ge (tgt := 90) dX3_bound_24 (by decide) (fun c_24 => absurd c_24 (nI_ge (by omega) (by omega))) (fun _ => ?_)
      refine g_aload_n dX3_bound_27 rfl (by rfl) ?_
      refine g_getf dX3_bound_28 fX3_9 (by exact hg) (by omega) (by rfl) ?_
      refine g_iload dX3_bound_31 (by rfl) ?_
      refine g_iald dX3_bound_33 (by first | exact qo | exact q1 | exact q2 | exact q3 | exact q4) (by omega) (by rfl) (by omega) (by omega) ?_
      rw [hf q (by omega)]
      refine g_istore dX3_bound_34 (by decide) ?_
      refine g_aload_n dX3_bound_36 rfl (by rfl) ?_
      refine g_getf dX3_bound_37 fX3_39 (by exact hd) (by omega) (by rfl) ?_
      refine g_iload dX3_bound_40 (by rfl) ?_
      refine g_iald dX3_bound_42 (by first | exact qo | exact q1 | exact q2 | exact q3 | exact q4) (by omega) (by rfl) (ho q (by omega)) (by omega) ?_
      refine g_istore dX3_bound_43 (by decide) ?_
      refine g_iload dX3_bound_45 (by rfl) ?_
      refine g_iload_n dX3_bound_47 rfl (by rfl) ?_
      refine g_icmp_le (tgt := 70) dX3_bound_48 (by decide) (fun c_48 => ?_) (fun c_48 => ?_)
      · refine g_iload_n dX3_bound_70 rfl (by rfl) ?_
        refine g_aload_n dX3_bound_71 rfl (by rfl) ?_
        refine g_iload dX3_bound_72 (by rfl) ?_
        refine g_callV_e (c_X2_weightOf (i := o q) ⟨hd, q1, q2, q3, q4⟩ hnd (ho q (by omega))) dX3_bound_74 (mX2_weightOf) rfl lX3_35 iX2_weightOf vX2_weightOf (by decide) (by omega) (by exact hd) rfl rfl rfl rfl (Nat.le_of_ble_eq_true rfl) ?_
        refine g_iadd dX3_bound_77 ?_
        refine g_istore_n dX3_bound_78 rfl (by decide) ?_
        refine g_iload_n dX3_bound_79 rfl (by rfl) ?_
        refine g_iload dX3_bound_80 (by rfl) ?_
        refine g_isub dX3_bound_82 ?_
        refine g_istore_n dX3_bound_83 rfl (by decide) ?_
        refine g_iinc (nI (q + 1)) dX3_bound_84 (by rfl) (nI_inc q) ?_
        refine g_goto (tgt := 18) dX3_bound_87 (by decide) ?_
        first
          | exact g_lv (ih (q + 1) _ _ (by omega) (by rw [← hw, g_bd, if_neg (fun z => absurd z.1 (Int32.not_lt.mpr c_48))])) ⟨rfl, rfl, rfl, rfl, rfl, trivial⟩
          | exact g_lv (ih (q + 1) _ _ (by omega) (by rw [← hw, g_bd, if_neg (fun z => absurd z.2 (Int32.not_lt.mpr c_53))])) ⟨rfl, rfl, rfl, rfl, rfl, trivial⟩
      · refine g_iload dX3_bound_51 (by rfl) ?_
        refine g_if_le (tgt := 70) dX3_bound_53 (by decide) (fun c_53 => ?_) (fun c_53 => ?_)
        · refine g_iload_n dX3_bound_70 rfl (by rfl) ?_
          refine g_aload_n dX3_bound_71 rfl (by rfl) ?_
          refine g_iload dX3_bound_72 (by rfl) ?_
          refine g_callV_e (c_X2_weightOf (i := o q) ⟨hd, q1, q2, q3, q4⟩ hnd (ho q (by omega))) dX3_bound_74 (mX2_weightOf) rfl lX3_35 iX2_weightOf vX2_weightOf (by decide) (by omega) (by exact hd) rfl rfl rfl rfl (Nat.le_of_ble_eq_true rfl) ?_
          refine g_iadd dX3_bound_77 ?_
          refine g_istore_n dX3_bound_78 rfl (by decide) ?_
          refine g_iload_n dX3_bound_79 rfl (by rfl) ?_
          refine g_iload dX3_bound_80 (by rfl) ?_
          refine g_isub dX3_bound_82 ?_
          refine g_istore_n dX3_bound_83 rfl (by decide) ?_
          refine g_iinc (nI (q + 1)) dX3_bound_84 (by rfl) (nI_inc q) ?_
          refine g_goto (tgt := 18) dX3_bound_87 (by decide) ?_
          first
            | exact g_lv (ih (q + 1) _ _ (by omega) (by rw [← hw, g_bd, if_neg (fun z => absurd z.1 (Int32.not_lt.mpr c_48))])) ⟨rfl, rfl, rfl, rfl, rfl, trivial⟩
            | exact g_lv (ih (q + 1) _ _ (by omega) (by rw [← hw, g_bd, if_neg (fun z => absurd z.2 (Int32.not_lt.mpr c_53))])) ⟨rfl, rfl, rfl, rfl, rfl, trivial⟩
        · refine g_iload_n dX3_bound_56 rfl (by rfl) ?_
          refine g_aload_n dX3_bound_57 rfl (by rfl) ?_
          refine g_iload dX3_bound_58 (by rfl) ?_
          refine g_callV_e (c_X2_weightOf (i := o q) ⟨hd, q1, q2, q3, q4⟩ hnd (ho q (by omega))) dX3_bound_60 (mX2_weightOf) rfl lX3_35 iX2_weightOf vX2_weightOf (by decide) (by omega) (by exact hd) rfl rfl rfl rfl (Nat.le_of_ble_eq_true rfl) ?_
          refine g_iload_n dX3_bound_63 rfl (by rfl) ?_
          refine g_imul dX3_bound_64 ?_
          refine g_iload dX3_bound_65 (by rfl) ?_
          refine g_idiv dX3_bound_67 (fun z => c_53 (by rw [show σ.1 0 (o q) = 0 from z]; exact Int32.le_refl 0)) ?_
          refine g_iadd dX3_bound_68 ?_
          refine g_ireturn dX3_bound_69 rfl ?_
          exact ⟨by rw [← hw, g_bd, if_pos ⟨Int32.not_le.mp c_48, Int32.not_le.mp c_53⟩], rfl, rfl⟩
  refine s_Mt_of rfl (by decide) (by exact Nat.le_of_ble_eq_true rfl) ?_
  refine g_aload_n dX3_bound_0 rfl (by rfl) ?_
  refine g_aload_n dX3_bound_1 rfl (by rfl) ?_
  refine g_iconst 1 dX3_bound_2 (by rfl) ?_
  refine g_callV_e (c_X2_setOf (cnt := cnt) ⟨hd, q1, q2, q3, q4⟩ hnd hc hc14 1) dX3_bound_3 (mX2_setOf) rfl lX3_42 iX2_setOf vX2_setOf (by decide) (by omega) (by exact hd) rfl rfl rfl rfl (Nat.le_of_ble_eq_true rfl) ?_
  refine g_callV_e (c_X2_totalWeight (cnt := cnt) ⟨hd, q1, q2, q3, q4⟩ hnd hc hc14 _) dX3_bound_6 (mX2_totalWeight) rfl lX3_49 iX2_totalWeight vX2_totalWeight (by decide) (by omega) (by exact hd) rfl rfl rfl rfl (Nat.le_of_ble_eq_true rfl) ?_
  refine g_istore_n dX3_bound_9 rfl (by decide) ?_
  refine g_aload_n dX3_bound_10 rfl (by rfl) ?_
  refine g_callV_e (c_X2_room (cnt := cnt) ⟨hd, q1, q2, q3, q4⟩ hnd hc hc14) dX3_bound_11 (mX2_room) rfl lX3_45 iX2_room vX2_room (by decide) (by omega) (by exact hd) rfl rfl rfl rfl (Nat.le_of_ble_eq_true rfl) ?_
  refine g_istore_n dX3_bound_14 rfl (by decide) ?_
  refine g_iconst 0 dX3_bound_15 (by rfl) ?_
  refine g_istore dX3_bound_16 (by decide) ?_
  exact g_lv (loop len 0 _ _ (by omega) rfl) ⟨rfl, rfl, rfl, rfl, rfl, trivial⟩
