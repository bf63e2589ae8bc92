/-! THE MODEL: counts of bits, cells, what if, greedy -/
def m_ck (k : Nat) : Bool := (List.range 256).all fun j => (256 * k + j == 0) || (b_pc 14 (256 * k + j) == b_pc 14 ((256 * k + j) &&& (256 * k + j - 1)) + 1)
theorem m_ck_all : ((List.range 64).all m_ck) = true := by decide +kernel
theorem m_pc {a : Nat} (h : a < 16384) (h0 : a ≠ 0) : b_pc 14 a = b_pc 14 (a &&& (a - 1)) + 1 := by
  have h1 := List.all_eq_true.mp m_ck_all (a / 256) (List.mem_range.mpr (by omega))
  unfold m_ck at h1
  have h2 := List.all_eq_true.mp h1 (a % 256) (List.mem_range.mpr (by omega))
  rw [Nat.div_add_mod] at h2
  rcases Bool.or_eq_true_iff.mp h2 with h3 | h3
  · exact absurd (eq_of_beq h3) h0
  · exact eq_of_beq h3
theorem m_pc_le {a : Nat} : ∀ k, b_pc k a ≤ k := fun k => by
  induction k generalizing a with
  | zero => exact Nat.le_refl _
  | succ k ih =>
    have := ih (a := a / 2)
    unfold b_pc
    omega

theorem c_X9_ones {h : s_H} {n M : Nat} (hM : M < 16384) : s_Mt TX9_ones 0 0 [.int (nI M)] h n (s_re (some (.int (s_bc (nI M)))) h n) := by
  have loop : ∀ (d a k : Nat), b_pc 14 a < d → a < 16384 → k + b_pc 14 a = b_pc 14 M → s_G TX9_ones (s_re (some (.int (s_bc (nI M)))) h n) 4 (s_lvs [(0, .int (nI M)), (1, .int (nI k)), (2, .int (nI a))]) [] h n 0 0 := by
    intro d
    induction d with
    | zero =>
      intro a k hd ha hk
      omega
    | succ d ih =>
      intro a k hd ha hk
      by_cases ha0 : a = 0
      · have hz : b_pc 14 a = 0 := by rw [ha0]; exact b_pc0 14
        refine g_iload_n dX9_ones_4 rfl (by rfl) ?_
        refine g_if_eq (tgt := 20) dX9_ones_5 (by decide) (fun _ => ?_) (fun c_5 => absurd (show nI a = 0 from by rw [ha0]; rfl) c_5)
        refine g_iload_n dX9_ones_20 rfl (by rfl) ?_
        refine g_ireturn dX9_ones_21 rfl ?_
        exact ⟨by rw [b_bc hM, show b_pc 14 M = k by omega], rfl, rfl⟩
      · have hle : a &&& (a - 1) ≤ a := Nat.and_le_left
        refine g_iload_n dX9_ones_4 rfl (by rfl) ?_
        refine g_if_eq (tgt := 20) dX9_ones_5 (by decide) (fun c_5 => absurd c_5 (show ¬ nI a = 0 from fun z => ha0 (nI_inj (by omega) (by omega) (show nI a = nI 0 from z)))) (fun _ => ?_)
        refine g_iinc (nI (k + 1)) dX9_ones_8 (by rfl) (nI_inc k) ?_
        refine g_iload_n dX9_ones_11 rfl (by rfl) ?_
        refine g_iload_n dX9_ones_12 rfl (by rfl) ?_
        refine g_iconst 1 dX9_ones_13 (by rfl) ?_
        refine g_isub dX9_ones_14 ?_
        rw [show (nI a - 1 : Int32) = nI (a - 1) from nI_sble (a := a) (b := 1) (by omega)]
        refine g_iand dX9_ones_15 ?_
        rw [nI_and]
        refine g_istore_n dX9_ones_16 rfl (by decide) ?_
        refine g_goto (tgt := 4) dX9_ones_17 (by decide) ?_
        have hle : a &&& (a - 1) ≤ a := Nat.and_le_left
        have hpc := m_pc ha ha0
        exact g_lv (ih (a &&& (a - 1)) (k + 1) (by omega) (by omega) (by omega)) ⟨rfl, rfl, rfl, trivial⟩
  refine s_Mt_of rfl (by decide) (by exact Nat.le_of_ble_eq_true rfl) ?_
  refine g_iconst 0 dX9_ones_0 (by rfl) ?_
  refine g_istore_n dX9_ones_1 rfl (by decide) ?_
  refine g_iload_n dX9_ones_2 rfl (by rfl) ?_
  refine g_istore_n dX9_ones_3 rfl (by decide) ?_
  exact g_lv (loop 15 M 0 (by have := m_pc_le (a := M) 14; omega) hM (by omega)) ⟨rfl, rfl, rfl, trivial⟩

theorem c_X9_freeItems {h : s_H} {n m : Nat} {I w : Nat → Int32} (hM : m_at h m I w) (hn : m + 21 ≤ n) {cnt : Nat} (hc : w 1 = nI cnt) (h14 : cnt ≤ 14) : s_Mt TX9_freeItems 0 0 [.ref m] h n (s_re (some (.int (s_bc (d_set (m_D w) 0 cnt)))) h n) := by
  have hm := hM.1
  have hw := hM.2
  refine s_Mt_of rfl (by decide) (by exact Nat.le_of_ble_eq_true rfl) ?_
  refine g_aload_n dX9_freeItems_0 rfl (by rfl) ?_
  refine g_iconst 0 dX9_freeItems_1 (by rfl) ?_
  refine g_callV_e (c_X9_inState hM hn hc h14 0) dX9_freeItems_2 (mX9_inState) rfl lX9_93 iX9_inState vX9_inState (by decide) (by omega) (by exact hm) rfl rfl rfl rfl (Nat.le_of_ble_eq_true rfl) ?_
  rw [k_dset (st := 0) (by omega)]
  refine g_callS_e (c_X9_ones (ka_M14 h14)) dX9_freeItems_5 (mX9_ones) rfl lX9_155 sX9_ones (by decide) rfl rfl (Nat.le_of_ble_eq_true rfl) ?_
  refine g_ireturn dX9_freeItems_8 rfl ?_
  exact ⟨rfl, rfl, rfl⟩

theorem c_X9_noCell {h : s_H} {n m : Nat} {I w : Nat → Int32} (hM : m_at h m I w) (hn : m + 21 ≤ n) {cnt : Nat} (hc : w 1 = nI cnt) (h14 : cnt ≤ 14) (x y lo : Int32) : s_Mt TX9_noCell 0 0 [.ref m, .int x, .int y, .int lo] h n (s_rp n (fun v9 h1 => v9 = some (.int (if (x < lo ∨ s_bc (d_set (m_D w) 0 cnt) < x ∨ y < 0 ∨ 100 < y) then 1 else 0)) ∧ m_at h1 m (if (x < lo ∨ s_bc (d_set (m_D w) 0 cnt) < x ∨ y < 0 ∨ 100 < y) then upd I 0 1 else I) w ∧ s_off h h1 m (m + 1)) s_no) := by
  have hm := hM.1
  have hw := hM.2
  have hoff : s_off h h m (m + 1) := s_off.rf
  refine s_Mt_of rfl (by decide) (by exact Nat.le_of_ble_eq_true rfl) ?_
  refine g_aload_n dX9_noCell_0 rfl (by rfl) ?_
  refine g_iload_n dX9_noCell_1 rfl (by rfl) ?_
  refine g_iload_n dX9_noCell_2 rfl (by rfl) ?_
  refine g_aload_n dX9_noCell_3 rfl (by rfl) ?_
  refine g_callV_e (c_X9_freeItems hM hn hc h14) dX9_noCell_4 (mX9_freeItems) rfl lX9_286 iX9_freeItems vX9_freeItems (by decide) (by omega) (by exact hm) rfl rfl rfl rfl (Nat.le_of_ble_eq_true rfl) ?_
  refine g_iconst 1 dX9_noCell_7 (by rfl) ?_
  refine g_callV_p (c_X9_outside hM hn x lo (s_bc (d_set (m_D w) 0 cnt)) 1) dX9_noCell_8 (mX9_outside) rfl lX9_69 iX9_outside vX9_outside (by decide) (by omega) (by exact hm) rfl rfl rfl rfl (Nat.le_of_ble_eq_true rfl) (fun v9 h9 z9 => ?_)
  obtain ⟨rfl, hM, qoff⟩ := z9
  have hoff := hoff.trans qoff

  refine g_if_ne (tgt := 26) dX9_noCell_11 (by decide) (fun c_11 => ?_) (fun c_11 => ?_)
  · have h1 : x < lo ∨ s_bc (d_set (m_D w) 0 cnt) < x := Classical.byContradiction fun z => c_11 (by rw [if_neg z])
    have hb : (x < lo ∨ s_bc (d_set (m_D w) 0 cnt) < x ∨ y < 0 ∨ 100 < y) := h1.elim Or.inl (fun z => Or.inr (Or.inl z))
    rw [if_pos h1] at hM
    refine g_iconst 1 dX9_noCell_26 (by rfl) ?_
    refine g_goto (tgt := 31) dX9_noCell_27 (by decide) ?_
    refine g_zreturn dX9_noCell_31 rfl (by first | exact Or.inl rfl | exact Or.inr rfl) ?_
    first | exact ⟨rfl, by rw [if_pos hb], by rw [if_pos hb]; exact hM, hoff⟩ | exact ⟨rfl, by rw [if_neg hb], by rw [if_neg hb]; exact hM, hoff⟩
  · have h1 : ¬ (x < lo ∨ s_bc (d_set (m_D w) 0 cnt) < x) := fun z => by rw [if_pos z] at c_11; exact absurd c_11 (by decide)
    rw [if_neg h1] at hM
    have hm := hM.1
    have hw := hM.2
    refine g_aload_n dX9_noCell_14 rfl (by rfl) ?_
    refine g_iload_n dX9_noCell_15 rfl (by rfl) ?_
    refine g_iconst 0 dX9_noCell_16 (by rfl) ?_
    refine g_bipush 100 dX9_noCell_17 (by rfl) ?_
    refine g_iconst 1 dX9_noCell_19 (by rfl) ?_
    refine g_callV_p (c_X9_outside hM hn y 0 100 1) dX9_noCell_20 (mX9_outside) rfl lX9_69 iX9_outside vX9_outside (by decide) (by omega) (by exact hm) rfl rfl rfl rfl (Nat.le_of_ble_eq_true rfl) (fun v9 h9 z9 => ?_)
    obtain ⟨rfl, hM, qoff⟩ := z9
    have hoff := hoff.trans qoff

    refine g_if_eq (tgt := 30) dX9_noCell_23 (by decide) (fun c_23 => ?_) (fun c_23 => ?_)
    · have h2 : ¬ (y < 0 ∨ 100 < y) := fun z => by rw [if_pos z] at c_23; exact absurd c_23 (by decide)
      have hb : ¬ (x < lo ∨ s_bc (d_set (m_D w) 0 cnt) < x ∨ y < 0 ∨ 100 < y) := fun z => z.elim (fun z => h1 (Or.inl z)) (fun z => z.elim (fun z => h1 (Or.inr z)) h2)
      rw [if_neg h2] at hM
      refine g_iconst 0 dX9_noCell_30 (by rfl) ?_
      refine g_zreturn dX9_noCell_31 rfl (by first | exact Or.inl rfl | exact Or.inr rfl) ?_
      first | exact ⟨rfl, by rw [if_pos hb], by rw [if_pos hb]; exact hM, hoff⟩ | exact ⟨rfl, by rw [if_neg hb], by rw [if_neg hb]; exact hM, hoff⟩
    · have h2 : y < 0 ∨ 100 < y := Classical.byContradiction fun z => c_23 (by rw [if_neg z])
      have hb : (x < lo ∨ s_bc (d_set (m_D w) 0 cnt) < x ∨ y < 0 ∨ 100 < y) := Or.inr (Or.inr h2)
      rw [if_pos h2] at hM
      refine g_iconst 1 dX9_noCell_26 (by rfl) ?_
      refine g_goto (tgt := 31) dX9_noCell_27 (by decide) ?_
      refine g_zreturn dX9_noCell_31 rfl (by first | exact Or.inl rfl | exact Or.inr rfl) ?_
      first | exact ⟨rfl, by rw [if_pos hb], by rw [if_pos hb]; exact hM, hoff⟩ | exact ⟨rfl, by rw [if_neg hb], by rw [if_neg hb]; exact hM, hoff⟩

theorem s_off.l2 {h h1 : s_H} {a b c e : Nat} (z : s_off h h1 a b) : s_off2 h h1 a b c e := fun j hj _ => z j hj
theorem s_off.r2 {h h1 : s_H} {a b c e : Nat} (z : s_off h h1 c e) : s_off2 h h1 a b c e := fun j _ hj => z j hj
theorem m_back {w : Nat → Int32} {k : Nat} {x : Int32} : upd (upd w k x) k (w k) = w := by
  funext j
  simp only [upd]
  split
  · rename_i e; rw [e]
  · rfl

theorem c_X9_weightIf {h : s_H} {n m : Nat} {I w : Nat → Int32} (hM : m_at h m I w) (hn : m + 21 ≤ n) {cnt cp : Nat} (ok : d_ok (m_D w) cnt cp) (hT : m_ta h m) {i st : Nat} (hi : i < cnt) (hst : st ≤ 2) : s_Mt TX9_weightIf 0 0 [.ref m, .int (nI i), .int (nI st)] h n (s_rp n (fun v9 h1 => v9 = some (.int (r_wt (u_best (d_put (m_D w) 3 i (nI st)) cnt cp))) ∧ m_at h1 m I w ∧ m_ta h1 m ∧ s_off2 h h1 (m + 1) (m + 2) (m + 18) (m + 21)) s_no) := by
  have hm := hM.1
  have hw := hM.2
  have hc := ok.1
  have h14 := ok.2.1
  have hcp := ok.2.2.1
  have h100 := ok.2.2.2.1
  have hoff : s_off2 h h (m + 1) (m + 2) (m + 18) (m + 21) := fun _ _ _ => rfl
  have he : d_eq cnt (m_D (upd w (5 + i * 4 + 3) (nI st))) (d_put (m_D w) 3 i (nI st)) := m_D_put (by omega)
  have ok2 : d_ok (m_D (upd w (5 + i * 4 + 3) (nI st))) cnt cp := he.sy.ok (ok.put3 hst)
  refine s_Mt_of rfl (by decide) (by exact Nat.le_of_ble_eq_true rfl) ?_
  refine g_aload_n dX9_weightIf_0 rfl (by rfl) ?_
  refine g_iload_n dX9_weightIf_1 rfl (by rfl) ?_
  refine g_iconst (nI 3) dX9_weightIf_2 (by rfl) ?_
  refine g_callV_e (c_X9_of hM hn i 3 (by omega)) dX9_weightIf_3 (mX9_of) rfl lX9_73 iX9_of vX9_of (by decide) (by omega) (by exact hm) rfl rfl rfl rfl (Nat.le_of_ble_eq_true rfl) ?_
  refine g_istore_n dX9_weightIf_6 rfl (by decide) ?_
  refine g_aload_n dX9_weightIf_7 rfl (by rfl) ?_
  refine g_iload_n dX9_weightIf_8 rfl (by rfl) ?_
  refine g_iconst (nI 3) dX9_weightIf_9 (by rfl) ?_
  refine g_iload_n dX9_weightIf_10 rfl (by rfl) ?_
  refine g_callV_p (c_X9_put hM hn i 3 (by omega) (nI st)) dX9_weightIf_11 (mX9_put) rfl lX9_55 iX9_put vX9_put (by decide) (by omega) (by exact hm) rfl rfl rfl rfl (Nat.le_of_ble_eq_true rfl) (fun v9 h9 z9 => ?_)
  obtain ⟨rfl, hM, qoff⟩ := z9
  have hT := hT.off qoff (by omega)
  have hoff := hoff.trans qoff.l2
  have hm := hM.1
  have hw := hM.2
  refine g_aload_n dX9_weightIf_14 rfl (by rfl) ?_
  refine g_callV_p (c_X9_bestWeightNow hM hn ok2 hT) dX9_weightIf_15 (mX9_bestWeightNow) rfl lX9_280 iX9_bestWeightNow vX9_bestWeightNow (by decide) (by omega) (by exact hm) rfl rfl rfl rfl (Nat.le_of_ble_eq_true rfl) (fun v9 h9 z9 => ?_)
  obtain ⟨rfl, hT, qoff⟩ := z9
  have hM := hM.off qoff (by omega)
  have hm := hM.1
  have hw := hM.2
  have hoff := hoff.trans qoff.r2
  refine g_istore dX9_weightIf_18 (by decide) ?_
  refine g_aload_n dX9_weightIf_20 rfl (by rfl) ?_
  refine g_iload_n dX9_weightIf_21 rfl (by rfl) ?_
  refine g_iconst 3 dX9_weightIf_22 (by rfl) ?_
  refine g_iload_n dX9_weightIf_23 rfl (by rfl) ?_
  refine g_callV_p (c_X9_put hM hn i 3 (by omega) (w (5 + i * 4 + 3))) dX9_weightIf_24 (mX9_put) rfl lX9_55 iX9_put vX9_put (by decide) (by omega) (by exact hm) rfl rfl rfl rfl (Nat.le_of_ble_eq_true rfl) (fun v9 h9 z9 => ?_)
  obtain ⟨rfl, hM, qoff⟩ := z9
  have hT := hT.off qoff (by omega)
  have hoff := hoff.trans qoff.l2
  have hm := hM.1
  have hw := hM.2
  refine g_iload dX9_weightIf_27 (by rfl) ?_
  refine g_ireturn dX9_weightIf_29 rfl ?_
  rw [m_back] at hM
  exact ⟨rfl, by rw [he.best], hM, hT, hoff⟩

theorem m_prod {a b : Nat} (ha : a ≤ 9990) (hb : b ≤ 60) : a * b ≤ 599400 := Nat.le_trans (Nat.mul_le_mul ha hb) (by decide)
theorem nI_lti {a b : Nat} (ha : a < 2147483648) (hb : b < 2147483648) : nI a < nI b ↔ a < b := by
  rw [Int32.lt_iff_toInt_lt, nI_ti ha, nI_ti hb]
  omega
theorem nI_eqi {a b : Nat} (ha : a < 2147483648) (hb : b < 2147483648) : nI a = nI b ↔ a = b := ⟨nI_inj ha hb, fun z => by rw [z]⟩
/-- the products that are compared -/
theorem m_dn {σ : s_D} {cnt cp i j : Nat} (ok : d_ok σ cnt cp) (hi : i < cnt) (hj : j < cnt) : d_wt σ i * σ.1 0 j = nI (k_w σ i * k_s σ j) ∧ k_w σ i * k_s σ j ≤ 599400 := by
  obtain ⟨-, -, -, h1, h2⟩ := k_it ok hi
  obtain ⟨h3, -, h4, -, -⟩ := k_it ok hj
  rw [h1, h3, nI_mul]
  exact ⟨rfl, m_prod h2 h4⟩
theorem g_bf_ka {σ : s_D} {cnt cp i j : Nat} (ok : d_ok σ cnt cp) (hi : i < cnt) (hj : j < cnt) : g_bf σ i j ↔ ka_bf (k_w σ) (k_s σ) i j := by
  obtain ⟨e1, b1⟩ := m_dn ok hi hj
  obtain ⟨e2, b2⟩ := m_dn ok hj hi
  obtain ⟨s1, -, s2, -, -⟩ := k_it ok hi
  obtain ⟨s3, -, s4, -, -⟩ := k_it ok hj
  unfold g_bf ka_bf
  rw [e1, e2, s1, s3, nI_lti (by omega) (by omega), nI_lti (by omega) (by omega), nI_eqi (by omega) (by omega)]
theorem m_T {P Q : Nat → Nat → Prop} {i j : Nat} (h1 : P i j ↔ Q i j) (h2 : P j i ↔ Q j i) : ka_T P i j ↔ ka_T Q i j := by
  unfold ka_T
  rw [h1, h2]
theorem g_bf_tr {σ : s_D} {cnt cp : Nat} (ok : d_ok σ cnt cp) : ka_tr (g_bf σ) cnt := by
  have h := ka_bf_tr (w := k_w σ) (s := k_s σ) (n := cnt) (fun i hi => (k_it ok hi).2.1)
  have e : ∀ i j, i < cnt → j < cnt → (g_bf σ i j ↔ ka_bf (k_w σ) (k_s σ) i j) := fun i j hi hj => g_bf_ka ok hi hj
  refine ⟨fun i j k hi hj hk => ?_, fun i hi => ?_, fun i j hi hj => ?_⟩
  · rw [m_T (e i j hi hj) (e j i hj hi), m_T (e j k hj hk) (e k j hk hj), m_T (e i k hi hk) (e k i hk hi)]
    exact h.1 i j k hi hj hk
  · rw [e i i hi hi]; exact h.2.1 i hi
  · rw [e i j hi hj, e j i hj hi]; exact h.2.2 i j hi hj
theorem g_srt_ka {σ : s_D} : ∀ i, g_srt σ i = ka_srt (g_bf σ) (k_f σ) i
  | 0 => rfl
  | i + 1 => by
    have hp : ∀ (o : Nat → Nat) (l : Nat), g_pl σ i o l = ka_pl (g_bf σ) i o l := fun o l => by
      induction l with
      | zero => rfl
      | succ l ih => unfold g_pl ka_pl; rw [ih]
    unfold g_srt ka_srt
    rw [g_srt_ka i, hp]
    by_cases hf : σ.1 3 i = 0
    · rw [if_pos hf, if_pos (show k_f σ i = true from decide_eq_true hf)]
      rfl
    · rw [if_neg hf, if_neg (show ¬ k_f σ i = true from fun z => hf (of_decide_eq_true z))]
theorem m_sub {a b : Nat} (ha : a ≤ 1000000) (hb : b ≤ 1000000) : (nI a - nI b = 0 ↔ a = b) ∧ (nI a - nI b ≤ 0 ↔ a ≤ b) := by
  have e : (nI a - nI b).toInt = (a : Int) - b := by
    rw [Int32.toInt_sub, nI_ti (by omega), nI_ti (by omega)]
    exact Int.bmod_eq_of_le (by omega) (by omega)
  have e0 : (0 : Int32).toInt = 0 := rfl
  constructor
  · rw [← Int32.toInt_inj, e, e0]
    omega
  · rw [Int32.le_iff_toInt_le, e, e0]
    omega

theorem c_X9_isDenser {h : s_H} {n m : Nat} {I w : Nat → Int32} (hM : m_at h m I w) (hn : m + 21 ≤ n) {cnt cp : Nat} (ok : d_ok (m_D w) cnt cp) {i j : Nat} (hi : i < cnt) (hji : j < i) : s_Mt TX9_isDenser 0 0 [.ref m, .int (nI i), .int (nI j)] h n (s_re (some (.int (g_bi (m_D w) i j))) h n) := by
  have hm := hM.1
  have hw := hM.2
  have hc := ok.1
  have h14 := ok.2.1
  have hcp := ok.2.2.1
  have h100 := ok.2.2.2.1
  obtain ⟨e1, b1⟩ := m_dn ok hi (show j < cnt by omega)
  obtain ⟨e2, b2⟩ := m_dn ok (show j < cnt by omega) hi
  obtain ⟨s1, -, s2, -, -⟩ := k_it ok hi
  obtain ⟨s3, -, s4, -, -⟩ := k_it ok (show j < cnt by omega)
  have hiff := g_bf_ka ok hi (show j < cnt by omega)
  refine s_Mt_of rfl (by decide) (by exact Nat.le_of_ble_eq_true rfl) ?_
  refine g_aload_n dX9_isDenser_0 rfl (by rfl) ?_
  refine g_iload_n dX9_isDenser_1 rfl (by rfl) ?_
  refine g_callV_e (c_X9_weightOf hM hn i (by omega)) dX9_isDenser_2 (mX9_weightOf) rfl lX9_83 iX9_weightOf vX9_weightOf (by decide) (by omega) (by exact hm) rfl rfl rfl rfl (Nat.le_of_ble_eq_true rfl) ?_
  refine g_aload_n dX9_isDenser_5 rfl (by rfl) ?_
  refine g_iload_n dX9_isDenser_6 rfl (by rfl) ?_
  refine g_iconst (nI 0) dX9_isDenser_7 (by rfl) ?_
  refine g_callV_e (c_X9_of hM hn j 0 (by omega)) dX9_isDenser_8 (mX9_of) rfl lX9_73 iX9_of vX9_of (by decide) (by omega) (by exact hm) rfl rfl rfl rfl (Nat.le_of_ble_eq_true rfl) ?_
  refine g_imul dX9_isDenser_11 ?_
  rw [show d_wt (m_D w) i * (m_D w).1 0 j = nI (k_w (m_D w) i * k_s (m_D w) j) from e1]
  refine g_aload_n dX9_isDenser_12 rfl (by rfl) ?_
  refine g_iload_n dX9_isDenser_13 rfl (by rfl) ?_
  refine g_callV_e (c_X9_weightOf hM hn j (by omega)) dX9_isDenser_14 (mX9_weightOf) rfl lX9_83 iX9_weightOf vX9_weightOf (by decide) (by omega) (by exact hm) rfl rfl rfl rfl (Nat.le_of_ble_eq_true rfl) ?_
  refine g_aload_n dX9_isDenser_17 rfl (by rfl) ?_
  refine g_iload_n dX9_isDenser_18 rfl (by rfl) ?_
  refine g_iconst (nI 0) dX9_isDenser_19 (by rfl) ?_
  refine g_callV_e (c_X9_of hM hn i 0 (by omega)) dX9_isDenser_20 (mX9_of) rfl lX9_73 iX9_of vX9_of (by decide) (by omega) (by exact hm) rfl rfl rfl rfl (Nat.le_of_ble_eq_true rfl) ?_
  refine g_imul dX9_isDenser_23 ?_
  rw [show d_wt (m_D w) j * (m_D w).1 0 i = nI (k_w (m_D w) j * k_s (m_D w) i) from e2]
  refine g_isub dX9_isDenser_24 ?_
  refine g_istore_n dX9_isDenser_25 rfl (by decide) ?_
  refine g_iload_n dX9_isDenser_26 rfl (by rfl) ?_
  refine g_if_eq (tgt := 40) dX9_isDenser_27 (by decide) (fun c_27 => ?_) (fun c_27 => ?_)
  · have q1 := (m_sub (by omega) (by omega)).1.mp c_27
    refine g_aload_n dX9_isDenser_40 rfl (by rfl) ?_
    refine g_iload_n dX9_isDenser_41 rfl (by rfl) ?_
    refine g_iconst (nI 0) dX9_isDenser_42 (by rfl) ?_
    refine g_callV_e (c_X9_of hM hn i 0 (by omega)) dX9_isDenser_43 (mX9_of) rfl lX9_73 iX9_of vX9_of (by decide) (by omega) (by exact hm) rfl rfl rfl rfl (Nat.le_of_ble_eq_true rfl) ?_
    rw [show (m_D w).1 0 i = nI (k_s (m_D w) i) from s1]
    refine g_aload_n dX9_isDenser_46 rfl (by rfl) ?_
    refine g_iload_n dX9_isDenser_47 rfl (by rfl) ?_
    refine g_iconst (nI 0) dX9_isDenser_48 (by rfl) ?_
    refine g_callV_e (c_X9_of hM hn j 0 (by omega)) dX9_isDenser_49 (mX9_of) rfl lX9_73 iX9_of vX9_of (by decide) (by omega) (by exact hm) rfl rfl rfl rfl (Nat.le_of_ble_eq_true rfl) ?_
    rw [show (m_D w).1 0 j = nI (k_s (m_D w) j) from s3]
    refine g_icmp_eq (tgt := 76) dX9_isDenser_52 (by decide) (fun c_52 => ?_) (fun c_52 => ?_)
    · have q3 := (nI_eqi (by omega) (by omega)).mp c_52
      have hb : ¬ g_bf (m_D w) i j := fun z => by rw [hiff] at z; unfold ka_bf at z; omega
      refine g_iload_n dX9_isDenser_76 rfl (by rfl) ?_
      refine g_iload_n dX9_isDenser_77 rfl (by rfl) ?_
      refine g_icmp_ge (tgt := 85) dX9_isDenser_78 (by decide) (fun _ => ?_) (fun c_78 => absurd (nI_le (by omega) (by omega)) c_78)
      refine g_iconst 0 dX9_isDenser_85 (by rfl) ?_
      refine g_zreturn dX9_isDenser_86 rfl (by decide) ?_
      first | exact ⟨by rw [g_bi1 hb], rfl, rfl⟩ | exact ⟨by rw [g_bi0 hb], rfl, rfl⟩
    · have q3 : ¬ k_s (m_D w) i = k_s (m_D w) j := fun z => c_52 ((nI_eqi (by omega) (by omega)).mpr z)
      refine g_aload_n dX9_isDenser_55 rfl (by rfl) ?_
      refine g_iload_n dX9_isDenser_56 rfl (by rfl) ?_
      refine g_iconst (nI 0) dX9_isDenser_57 (by rfl) ?_
      refine g_callV_e (c_X9_of hM hn i 0 (by omega)) dX9_isDenser_58 (mX9_of) rfl lX9_73 iX9_of vX9_of (by decide) (by omega) (by exact hm) rfl rfl rfl rfl (Nat.le_of_ble_eq_true rfl) ?_
      rw [show (m_D w).1 0 i = nI (k_s (m_D w) i) from s1]
      refine g_aload_n dX9_isDenser_61 rfl (by rfl) ?_
      refine g_iload_n dX9_isDenser_62 rfl (by rfl) ?_
      refine g_iconst (nI 0) dX9_isDenser_63 (by rfl) ?_
      refine g_callV_e (c_X9_of hM hn j 0 (by omega)) dX9_isDenser_64 (mX9_of) rfl lX9_73 iX9_of vX9_of (by decide) (by omega) (by exact hm) rfl rfl rfl rfl (Nat.le_of_ble_eq_true rfl) ?_
      rw [show (m_D w).1 0 j = nI (k_s (m_D w) j) from s3]
      refine g_icmp_ge (tgt := 74) dX9_isDenser_67 (by decide) (fun c_67 => ?_) (fun c_67 => ?_)
      · have q4 := (nI_lei (by omega) (by omega)).mp c_67
        have hb : ¬ g_bf (m_D w) i j := fun z => by rw [hiff] at z; unfold ka_bf at z; omega
        refine g_iconst 0 dX9_isDenser_74 (by rfl) ?_
        refine g_zreturn dX9_isDenser_75 rfl (by decide) ?_
        first | exact ⟨by rw [g_bi1 hb], rfl, rfl⟩ | exact ⟨by rw [g_bi0 hb], rfl, rfl⟩
      · have q4 : ¬ k_s (m_D w) j ≤ k_s (m_D w) i := fun z => c_67 ((nI_lei (by omega) (by omega)).mpr z)
        have hb : g_bf (m_D w) i j := hiff.mpr (Or.inr ⟨q1, by omega⟩)
        refine g_iconst 1 dX9_isDenser_70 (by rfl) ?_
        refine g_goto (tgt := 75) dX9_isDenser_71 (by decide) ?_
        refine g_zreturn dX9_isDenser_75 rfl (by decide) ?_
        first | exact ⟨by rw [g_bi1 hb], rfl, rfl⟩ | exact ⟨by rw [g_bi0 hb], rfl, rfl⟩
  · have q1 : ¬ k_w (m_D w) i * k_s (m_D w) j = k_w (m_D w) j * k_s (m_D w) i := fun z => c_27 ((m_sub (by omega) (by omega)).1.mpr z)
    refine g_iload_n dX9_isDenser_30 rfl (by rfl) ?_
    refine g_if_le (tgt := 38) dX9_isDenser_31 (by decide) (fun c_31 => ?_) (fun c_31 => ?_)
    · have q2 := (m_sub (by omega) (by omega)).2.mp c_31
      have hb : ¬ g_bf (m_D w) i j := fun z => by rw [hiff] at z; unfold ka_bf at z; omega
      refine g_iconst 0 dX9_isDenser_38 (by rfl) ?_
      refine g_zreturn dX9_isDenser_39 rfl (by decide) ?_
      first | exact ⟨by rw [g_bi1 hb], rfl, rfl⟩ | exact ⟨by rw [g_bi0 hb], rfl, rfl⟩
    · have q2 : ¬ k_w (m_D w) i * k_s (m_D w) j ≤ k_w (m_D w) j * k_s (m_D w) i := fun z => c_31 ((m_sub (by omega) (by omega)).2.mpr z)
      have hb : g_bf (m_D w) i j := hiff.mpr (Or.inl (by omega))
      refine g_iconst 1 dX9_isDenser_34 (by rfl) ?_
      refine g_goto (tgt := 39) dX9_isDenser_35 (by decide) ?_
      refine g_zreturn dX9_isDenser_39 rfl (by decide) ?_
      first | exact ⟨by rw [g_bi1 hb], rfl, rfl⟩ | exact ⟨by rw [g_bi0 hb], rfl, rfl⟩
