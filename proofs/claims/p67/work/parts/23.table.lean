/-! TABLE -/
/-- a table: the ranks, the items of the rows, the ways, how many rows, the size and the rank of the pinned items -/
abbrev s_Tb : Type := (Nat → Nat → Int64) × (Nat → Int32) × (Nat → Int32) × Nat × Int32 × Int64
def s_tab (h : s_H) (t : Nat) (τ : s_Tb) : Prop :=
  h t = .inr (5, [.ref (t + 1), .ref (t + 17), .ref (t + 18), .int (nI τ.2.2.2.1), .int τ.2.2.2.2.1, .long τ.2.2.2.2.2]) ∧
  h (t + 1) = .inl (4, 15, .inr (.inr (.inr (.inr (fun i => if i < 15 then some (t + 2 + i) else none))))) ∧
  (∀ r, r < 15 → h (t + 2 + r) = .inl (1, 101, .inr (.inl (τ.1 r)))) ∧ h (t + 17) = .inl (0, 14, .inl τ.2.1) ∧ h (t + 18) = .inl (0, 101, .inl τ.2.2.1)
theorem s_tab.off {h h1 : s_H} {t a b : Nat} {τ : s_Tb} (q : s_tab h t τ) (r : s_off h h1 a b) (hd : t + 19 ≤ a ∨ b ≤ t) : s_tab h1 t τ := by
  obtain ⟨q0, q1, q2, q3, q4⟩ := q
  exact ⟨(r _ (by omega)).trans q0, (r _ (by omega)).trans q1, fun i hi => (r _ (by omega)).trans (q2 i hi), (r _ (by omega)).trans q3, (r _ (by omega)).trans q4⟩
/-- a new cell of a row -/
def t_nv (R : Nat → Nat → Int64) (r sz : Nat) (ir : Int64) (c : Nat) : Int64 := if sz ≤ c ∧ R r c < R r (c - sz) + ir then R r (c - sz) + ir else R r c
/-- a row whose first cells are new -/
def t_rc (R : Nat → Nat → Int64) (r sz : Nat) (ir : Int64) (b : Nat) : Nat → Int64 := fun c => if c < b then t_nv R r sz ir c else R (r + 1) c
theorem t_rc_0 {R : Nat → Nat → Int64} {r sz : Nat} {ir : Int64} : t_rc R r sz ir 0 = R (r + 1) := by
  funext c
  simp [t_rc]
theorem t_rc_s {R : Nat → Nat → Int64} {r sz : Nat} {ir v : Int64} {b : Nat} (hv : v = t_nv R r sz ir b) : vp_updL (t_rc R r sz ir b) b v = t_rc R r sz ir (b + 1) := by
  funext c
  simp only [vp_updL, t_rc]
  by_cases hc : c = b
  · subst hc
    rw [if_pos rfl, if_pos (Nat.lt_succ_self _), hv]
  · rw [if_neg hc]
    by_cases h1 : c < b
    · rw [if_pos h1, if_pos (by omega)]
    · rw [if_neg h1, if_neg (by omega)]
def t_best (τ : s_Tb) (cap : Int32) : Int64 := if cap - τ.2.2.2.2.1 < 0 then r_NP else τ.2.2.2.2.2 + τ.1 τ.2.2.2.1 (cap - τ.2.2.2.2.1).toNatClampNeg
/-- the table behind the first i items of a disk -/
def t_step (σ : s_D) (lc i : Nat) (τ : s_Tb) : s_Tb :=
  if σ.1 3 i = 1 then (τ.1, τ.2.1, τ.2.2.1, τ.2.2.2.1, τ.2.2.2.2.1 + σ.1 0 i, τ.2.2.2.2.2 + r_rank (d_wt σ i) (σ.1 0 i) ((1 : Int32) <<< (nI i &&& 31)))
  else if σ.1 3 i = 0 then ((fun q => if q = τ.2.2.2.1 + 1 then t_rc τ.1 τ.2.2.2.1 (σ.1 0 i).toNatClampNeg (r_rank (d_wt σ i) (σ.1 0 i) ((1 : Int32) <<< (nI i &&& 31))) (lc + 1) else τ.1 q), upd τ.2.1 τ.2.2.2.1 (nI i), τ.2.2.1, τ.2.2.2.1 + 1, τ.2.2.2.2.1, τ.2.2.2.2.2)
  else τ
def t_build (σ : s_D) (lc : Nat) (τ : s_Tb) : Nat → s_Tb
  | 0 => (τ.1, τ.2.1, τ.2.2.1, 0, 0, 0)
  | i + 1 => t_step σ lc i (t_build σ lc τ i)
theorem t_build_rows {σ : s_D} {lc : Nat} {τ : s_Tb} : ∀ i, (t_build σ lc τ i).2.2.2.1 ≤ i
  | 0 => Nat.le_refl _
  | i + 1 => by
    have ih := t_build_rows (σ := σ) (lc := lc) (τ := τ) i
    show (t_step σ lc i (t_build σ lc τ i)).2.2.2.1 ≤ i + 1
    unfold t_step
    split
    · exact Nat.le_succ_of_le ih
    · split
      · exact Nat.succ_le_succ ih
      · exact Nat.le_succ_of_le ih

theorem c_X7_cellWeight {h : s_H} {n t r c : Nat} {τ : s_Tb} (hT : s_tab h t τ) (hn : t + 18 < n) (hr9 : r < 15) (hc9 : c < 101) : s_Mt TX7_cellWeight 0 0 [.ref t, .int (nI r), .int (nI c)] h n (s_re (some (.int (r_wt (τ.1 r c)))) h n) := by
  obtain ⟨ht, hR, hr, hri, hwy⟩ := hT
  refine s_Mt_of rfl (by decide) (by exact Nat.le_of_ble_eq_true rfl) ?_
  refine g_aload_n dX7_cellWeight_0 rfl (by rfl) ?_
  refine g_getf dX7_cellWeight_1 fX7_11 (by exact ht) (by omega) (by rfl) ?_
  refine g_iload_n dX7_cellWeight_4 rfl (by rfl) ?_
  refine g_aaldL dX7_cellWeight_5 (by exact hR) (by omega) (by rfl) (by omega) (by omega) (by exact if_pos (by omega)) ?_
  refine g_iload_n dX7_cellWeight_6 rfl (by rfl) ?_
  refine g_lald dX7_cellWeight_7 (by exact (hr _ (by omega))) (by omega) (by rfl) (by omega) (by omega) ?_
  refine g_callSN_e (c_X8_rankWeight (τ.1 r c)) dX7_cellWeight_8 (mX8_rankWeight) rfl lX7_57 sX8_rankWeight (by decide) rfl rfl (Nat.le_of_ble_eq_true rfl) ?_
  refine g_ireturn dX7_cellWeight_11 rfl ?_
  exact ⟨rfl, rfl, rfl⟩

theorem c_X7_bestFor {h : s_H} {n t : Nat} {τ : s_Tb} (hT : s_tab h t τ) (hn : t + 18 < n) (hr9 : τ.2.2.2.1 < 15) (cap : Int32) (hz : ¬ cap - τ.2.2.2.2.1 < 0 → (cap - τ.2.2.2.2.1).toNatClampNeg < 101) : s_Mt TX7_bestFor 0 0 [.ref t, .int cap] h n (s_re (some (.long (t_best τ cap))) h n) := by
  obtain ⟨ht, hR, hr, hri, hwy⟩ := hT
  refine s_Mt_of rfl (by decide) (by exact Nat.le_of_ble_eq_true rfl) ?_
  refine g_iload_n dX7_bestFor_0 rfl (by rfl) ?_
  refine g_aload_n dX7_bestFor_1 rfl (by rfl) ?_
  refine g_getf dX7_bestFor_2 fX7_27 (by exact ht) (by omega) (by rfl) ?_
  refine g_isub dX7_bestFor_5 ?_
  refine g_istore_n dX7_bestFor_6 rfl (by decide) ?_
  refine g_iload_n dX7_bestFor_7 rfl (by rfl) ?_
  refine g_if_ge (tgt := 17) dX7_bestFor_8 (by decide) (fun c_8 => ?_) (fun c_8 => ?_)
  · obtain ⟨j, hj, hx⟩ := nI_of (Int32.not_lt.mpr c_8)
    have hj9 : j < 101 := by have z := hz (Int32.not_lt.mpr c_8); rw [hx, nI_clamp hj] at z; exact z
    refine g_aload_n dX7_bestFor_17 rfl (by rfl) ?_
    refine g_getf dX7_bestFor_18 fX7_30 (by exact ht) (by omega) (by rfl) ?_
    refine g_aload_n dX7_bestFor_21 rfl (by rfl) ?_
    refine g_getf dX7_bestFor_22 fX7_11 (by exact ht) (by omega) (by rfl) ?_
    refine g_aload_n dX7_bestFor_25 rfl (by rfl) ?_
    refine g_getf dX7_bestFor_26 fX7_23 (by exact ht) (by omega) (by rfl) ?_
    refine g_aaldL dX7_bestFor_29 (by exact hR) (by omega) (by rfl) (by omega) (by omega) (by exact if_pos (by omega)) ?_
    refine g_iload_n dX7_bestFor_30 rfl (by rfl) ?_
    refine g_lald dX7_bestFor_31 (by exact (hr _ (by omega))) (by omega) (by exact hx) hj9 (by omega) ?_
    refine g_ladd dX7_bestFor_32 ?_
    refine g_lreturn dX7_bestFor_33 rfl ?_
    exact ⟨by first | rw [t_best, if_pos (Int32.not_le.mp c_8)]; rfl | rw [t_best, if_neg (Int32.not_lt.mpr c_8), hx, nI_clamp hj], rfl, rfl⟩
  · refine g_ldc2 dX7_bestFor_11 kX7_61 ?_
    refine g_goto (tgt := 33) dX7_bestFor_14 (by decide) ?_
    refine g_lreturn dX7_bestFor_33 rfl ?_
    exact ⟨by first | rw [t_best, if_pos (Int32.not_le.mp c_8)]; rfl | rw [t_best, if_neg (Int32.not_lt.mpr c_8), hx, nI_clamp hj], rfl, rfl⟩

theorem c_X7_buildRow {h : s_H} {n t r sz lc : Nat} {τ : s_Tb} (hT : s_tab h t τ) (hn : t + 18 < n) (hr8 : τ.2.2.2.1 = r + 1) (hr9 : r < 14) (ir : Int64) (hsz : sz < 2147483648) (hlc : lc < 101) : s_Mt TX7_buildRow 0 0 [.ref t, .int (nI sz), .long ir, .int (nI lc)] h n (s_rp n (fun v9 h1 => v9 = none ∧ h1 (t + 2 + (r + 1)) = .inl (1, 101, .inr (.inl (t_rc τ.1 r sz ir (lc + 1)))) ∧ s_off h h1 (t + 2 + (r + 1)) (t + 3 + (r + 1))) s_no) := by
  obtain ⟨ht, hR, hr, hri, hwy⟩ := hT
  have loop : ∀ (k c : Nat) (h' : s_H), c + k = lc + 1 → h' (t + 2 + r) = .inl (1, 101, .inr (.inl (τ.1 r))) → h' (t + 2 + (r + 1)) = .inl (1, 101, .inr (.inl (t_rc τ.1 r sz ir c))) → s_off h h' (t + 2 + (r + 1)) (t + 3 + (r + 1)) → s_G TX7_buildRow (s_rp n (fun v9 h1 => v9 = none ∧ h1 (t + 2 + (r + 1)) = .inl (1, 101, .inr (.inl (t_rc τ.1 r sz ir (lc + 1)))) ∧ s_off h h1 (t + 2 + (r + 1)) (t + 3 + (r + 1))) s_no) 27 (s_lvs [(0, .ref t), (1, .int (nI sz)), (2, .long ir), (4, .int (nI lc)), (5, .ref (t + 2 + r)), (6, .ref (t + 2 + (r + 1))), (7, .int (nI c))]) [] h' n 0 0 := by
    intro k
    induction k with
    | zero =>
      intro c h' hk ha hb hoff
      obtain rfl : c = lc + 1 := by omega
      refine g_iload dX7_buildRow_27 (by rfl) ?_
      refine g_iload dX7_buildRow_29 (by rfl) ?_
      refine g_icmp_gt (tgt := 86) dX7_buildRow_31 (by decide) (fun _ => ?_) (fun c_31 => absurd (nI_lt (by omega) (by omega)) c_31)
      refine g_vreturn dX7_buildRow_86 rfl ?_
      exact ⟨rfl, rfl, hb, hoff⟩
    | succ k ih =>
      intro c h' hk ha hb hoff
      refine g_iload dX7_buildRow_27 (by rfl) ?_
      refine g_iload dX7_buildRow_29 (by rfl) ?_
      refine g_icmp_gt (tgt := 86) dX7_buildRow_31 (by decide) (fun c_31 => absurd c_31 (nI_nlt (by omega) (by omega))) (fun _ => ?_)
      refine g_aload dX7_buildRow_34 (by rfl) ?_
      refine g_iload dX7_buildRow_36 (by rfl) ?_
      refine g_lald dX7_buildRow_38 (by first | exact ha | exact hb) (by omega) (by rfl) (by omega) (by omega) ?_
      refine g_lstore dX7_buildRow_39 (by decide) ?_
      refine g_iload dX7_buildRow_41 (by rfl) ?_
      refine g_iload_n dX7_buildRow_43 rfl (by rfl) ?_
      refine g_icmp_lt (tgt := 73) dX7_buildRow_44 (by decide) (fun c_44 => ?_) (fun c_44 => ?_)
      · have hv : τ.1 r c = t_nv τ.1 r sz ir c := by
          rw [t_nv, if_neg (fun z => absurd z.1 (Nat.not_le.mpr ((nI_ltI (by omega) (by omega)).mp c_44)))]
        refine g_aload dX7_buildRow_73 (by rfl) ?_
        refine g_iload dX7_buildRow_75 (by rfl) ?_
        refine g_lload dX7_buildRow_77 (by rfl) ?_
        refine g_last' dX7_buildRow_79 (by first | exact ha | exact hb) (by omega) (by rfl) (by omega) (by omega) (fun h1 e1 => ?_)
        first | have ha_1 := s_up_off e1 (by omega) ha | have ha_1 := s_up_at e1
        first | have hb_1 := s_up_off e1 (by omega) hb | have hb_1 := s_up_at e1
        refine g_iinc (nI (c + 1)) dX7_buildRow_80 (by rfl) (nI_inc c) ?_
        refine g_goto (tgt := 27) dX7_buildRow_83 (by decide) ?_
        exact g_lv (ih (c + 1) h1 (by omega) ha_1 (by rw [← t_rc_s hv]; exact hb_1) (hoff.up e1 (by omega))) ⟨rfl, rfl, rfl, rfl, rfl, rfl, rfl, trivial⟩
      · have hle : sz ≤ c := Nat.not_lt.mp (fun z => c_44 (nI_lt z (by omega)))
        refine g_aload dX7_buildRow_47 (by rfl) ?_
        refine g_iload dX7_buildRow_49 (by rfl) ?_
        refine g_iload_n dX7_buildRow_51 rfl (by rfl) ?_
        refine g_isub dX7_buildRow_52 ?_
        refine g_lald dX7_buildRow_53 (by first | exact ha | exact hb) (by omega) (by exact pk_sub hle) (by omega) (by omega) ?_
        refine g_lload_n dX7_buildRow_54 rfl (by rfl) ?_
        refine g_ladd dX7_buildRow_55 ?_
        refine g_lload dX7_buildRow_56 (by rfl) ?_
        refine g_lcmp dX7_buildRow_58 ?_
        refine g_if_le (tgt := 73) dX7_buildRow_59 (by decide) (fun c_59 => ?_) (fun c_59 => ?_)
        · have hv : τ.1 r c = t_nv τ.1 r sz ir c := by
            rw [t_nv, if_neg (fun z => absurd z.2 (Int64.not_lt.mpr ((lg_cmp_le _ _).mp c_59)))]
          refine g_aload dX7_buildRow_73 (by rfl) ?_
          refine g_iload dX7_buildRow_75 (by rfl) ?_
          refine g_lload dX7_buildRow_77 (by rfl) ?_
          refine g_last' dX7_buildRow_79 (by first | exact ha | exact hb) (by omega) (by rfl) (by omega) (by omega) (fun h2 e2 => ?_)
          first | have ha_2 := s_up_off e2 (by omega) ha | have ha_2 := s_up_at e2
          first | have hb_2 := s_up_off e2 (by omega) hb | have hb_2 := s_up_at e2
          refine g_iinc (nI (c + 1)) dX7_buildRow_80 (by rfl) (nI_inc c) ?_
          refine g_goto (tgt := 27) dX7_buildRow_83 (by decide) ?_
          exact g_lv (ih (c + 1) h2 (by omega) ha_2 (by rw [← t_rc_s hv]; exact hb_2) (hoff.up e2 (by omega))) ⟨rfl, rfl, rfl, rfl, rfl, rfl, rfl, trivial⟩
        · have hv : τ.1 r (c - sz) + ir = t_nv τ.1 r sz ir c := by
            rw [t_nv, if_pos ⟨hle, Int64.not_le.mp (fun z => c_59 ((lg_cmp_le _ _).mpr z))⟩]
          refine g_aload dX7_buildRow_62 (by rfl) ?_
          refine g_iload dX7_buildRow_64 (by rfl) ?_
          refine g_iload_n dX7_buildRow_66 rfl (by rfl) ?_
          refine g_isub dX7_buildRow_67 ?_
          refine g_lald dX7_buildRow_68 (by first | exact ha | exact hb) (by omega) (by exact pk_sub hle) (by omega) (by omega) ?_
          refine g_lload_n dX7_buildRow_69 rfl (by rfl) ?_
          refine g_ladd dX7_buildRow_70 ?_
          refine g_lstore dX7_buildRow_71 (by decide) ?_
          refine g_aload dX7_buildRow_73 (by rfl) ?_
          refine g_iload dX7_buildRow_75 (by rfl) ?_
          refine g_lload dX7_buildRow_77 (by rfl) ?_
          refine g_last' dX7_buildRow_79 (by first | exact ha | exact hb) (by omega) (by rfl) (by omega) (by omega) (fun h3 e3 => ?_)
          first | have ha_3 := s_up_off e3 (by omega) ha | have ha_3 := s_up_at e3
          first | have hb_3 := s_up_off e3 (by omega) hb | have hb_3 := s_up_at e3
          refine g_iinc (nI (c + 1)) dX7_buildRow_80 (by rfl) (nI_inc c) ?_
          refine g_goto (tgt := 27) dX7_buildRow_83 (by decide) ?_
          exact g_lv (ih (c + 1) h3 (by omega) ha_3 (by rw [← t_rc_s hv]; exact hb_3) (hoff.up e3 (by omega))) ⟨rfl, rfl, rfl, rfl, rfl, rfl, rfl, trivial⟩
  refine s_Mt_of rfl (by decide) (by exact Nat.le_of_ble_eq_true rfl) ?_
  refine g_aload_n dX7_buildRow_0 rfl (by rfl) ?_
  refine g_getf dX7_buildRow_1 fX7_11 (by exact ht) (by omega) (by rfl) ?_
  refine g_aload_n dX7_buildRow_4 rfl (by rfl) ?_
  refine g_getf dX7_buildRow_5 fX7_23 (by exact ht) (by omega) (by rfl) ?_
  refine g_iconst 1 dX7_buildRow_8 (by rfl) ?_
  refine g_isub dX7_buildRow_9 ?_
  refine g_aaldL dX7_buildRow_10 (by exact hR) (by omega) (by rw [hr8]; exact nI_pred r) (by omega) (by omega) (by exact if_pos (by omega)) ?_
  refine g_astore dX7_buildRow_11 (by decide) ?_
  refine g_aload_n dX7_buildRow_13 rfl (by rfl) ?_
  refine g_getf dX7_buildRow_14 fX7_11 (by exact ht) (by omega) (by rfl) ?_
  refine g_aload_n dX7_buildRow_17 rfl (by rfl) ?_
  refine g_getf dX7_buildRow_18 fX7_23 (by exact ht) (by omega) (by rfl) ?_
  refine g_aaldL dX7_buildRow_21 (by exact hR) (by omega) (by rw [hr8]) (by omega) (by omega) (by exact if_pos (by omega)) ?_
  refine g_astore dX7_buildRow_22 (by decide) ?_
  refine g_iconst 0 dX7_buildRow_24 (by rfl) ?_
  refine g_istore dX7_buildRow_25 (by decide) ?_
  exact g_lv (loop (lc + 1) 0 h (by omega) (hr r (by omega)) (by rw [t_rc_0]; exact hr (r + 1) (by omega)) s_off.rf) ⟨rfl, rfl, rfl, rfl, rfl, rfl, rfl, trivial⟩

theorem c_X7_build {h : s_H} {n t d cnt lc : Nat} {τ : s_Tb} {σ : s_D} (hT : s_tab h t τ) (hD : s_disk h d σ) (hn : t + 18 < n) (hnd : d + 4 < n) (hdt : d + 5 ≤ t ∨ t + 19 ≤ d) (hc : σ.2 0 = nI cnt) (hc14 : cnt ≤ 14) (hsz : ∀ i, i < cnt → ¬ σ.1 0 i < 0) (hlc : lc < 101) : s_Mt TX7_build 0 0 [.ref t, .ref d, .int (nI lc)] h n (s_rp n (fun v9 h1 => v9 = none ∧ s_tab h1 t (t_build σ lc τ cnt) ∧ s_off h h1 t (t + 19)) s_no) := by
  have loop : ∀ (k i : Nat) (h' : s_H), i + k = cnt → s_tab h' t (t_build σ lc τ i) → s_disk h' d σ → s_off h h' t (t + 19) → s_G TX7_build (s_rp n (fun v9 h1 => v9 = none ∧ s_tab h1 t (t_build σ lc τ cnt) ∧ s_off h h1 t (t + 19)) s_no) 17 (s_lvs [(0, .ref t), (1, .ref d), (2, .int (nI lc)), (3, .int (nI i))]) [] h' n 0 0 := by
    intro k
    induction k with
    | zero =>
      intro i h' hk hT hD hoff
      obtain rfl : i = cnt := by omega
      obtain ⟨hd, q1, q2, q3, q4⟩ := hD
      rw [hc] at hd
      refine g_iload_n dX7_build_17 rfl (by rfl) ?_
      refine g_aload_n dX7_build_18 rfl (by rfl) ?_
      refine g_getf dX7_build_19 fX7_34 (by exact hd) (by omega) (by rfl) ?_
      refine g_icmp_ge (tgt := 131) dX7_build_22 (by decide) (fun _ => ?_) (fun c_22 => absurd (nI_le (by omega) (by omega)) c_22)
      refine g_vreturn dX7_build_131 rfl ?_
      exact ⟨rfl, rfl, hT, hoff⟩
    | succ k ih =>
      intro i h' hk hT hD hoff
      have hrow := t_build_rows (σ := σ) (lc := lc) (τ := τ) i
      obtain ⟨hd, q1, q2, q3, q4⟩ := hD
      obtain ⟨ht, hR, hr, hri, hwy⟩ := hT
      rw [hc] at hd
      obtain ⟨z0, hz0, hsz0⟩ := nI_of (hsz i (by omega))
      have hz1 : (σ.1 0 i).toNatClampNeg = z0 := by rw [hsz0]; exact nI_clamp hz0
      have hsz9 : σ.1 0 i = nI (σ.1 0 i).toNatClampNeg := by rw [hz1]; exact hsz0
      refine g_iload_n dX7_build_17 rfl (by rfl) ?_
      refine g_aload_n dX7_build_18 rfl (by rfl) ?_
      refine g_getf dX7_build_19 fX7_34 (by exact hd) (by omega) (by rfl) ?_
      refine g_icmp_ge (tgt := 131) dX7_build_22 (by decide) (fun c_22 => absurd c_22 (nI_ge (by omega) (by omega))) (fun _ => ?_)
      refine g_aload_n dX7_build_25 rfl (by rfl) ?_
      refine g_iload_n dX7_build_26 rfl (by rfl) ?_
      refine g_callV_e (c_X2_weightOf (i := i) ⟨(by rw [← hc] at hd; exact hd), q1, q2, q3, q4⟩ hnd (by omega)) dX7_build_27 (mX2_weightOf) rfl lX7_39 iX2_weightOf vX2_weightOf (by decide) (by omega) (by exact hd) rfl rfl rfl rfl (Nat.le_of_ble_eq_true rfl) ?_
      refine g_aload_n dX7_build_30 rfl (by rfl) ?_
      refine g_getf dX7_build_31 fX7_43 (by exact hd) (by omega) (by rfl) ?_
      refine g_iload_n dX7_build_34 rfl (by rfl) ?_
      refine g_iald dX7_build_35 (by first | exact hri | exact hwy | exact q1 | exact q2 | exact q3 | exact q4) (by omega) (by rfl) (by omega) (by omega) ?_
      refine g_iconst 1 dX7_build_36 (by rfl) ?_
      refine g_iload_n dX7_build_37 rfl (by rfl) ?_
      refine g_ishl dX7_build_38 ?_
      refine g_callSN_e (c_X8_rank _ _ _) dX7_build_39 (mX8_rank) rfl lX7_46 sX8_rank (by decide) rfl rfl (Nat.le_of_ble_eq_true rfl) ?_
      refine g_lstore dX7_build_42 (by decide) ?_
      refine g_aload_n dX7_build_44 rfl (by rfl) ?_
      refine g_getf dX7_build_45 fX7_50 (by exact hd) (by omega) (by rfl) ?_
      refine g_iload_n dX7_build_48 rfl (by rfl) ?_
      refine g_iald dX7_build_49 (by first | exact hri | exact hwy | exact q1 | exact q2 | exact q3 | exact q4) (by omega) (by rfl) (by omega) (by omega) ?_
      refine g_iconst 1 dX7_build_50 (by rfl) ?_
      refine g_icmp_ne (tgt := 83) dX7_build_51 (by decide) (fun c_51 => ?_) (fun c_51 => ?_)
      · refine g_aload_n dX7_build_83 rfl (by rfl) ?_
        refine g_getf dX7_build_84 fX7_50 (by exact hd) (by omega) (by rfl) ?_
        refine g_iload_n dX7_build_87 rfl (by rfl) ?_
        refine g_iald dX7_build_88 (by first | exact hri | exact hwy | exact q1 | exact q2 | exact q3 | exact q4) (by omega) (by rfl) (by omega) (by omega) ?_
        refine g_if_ne (tgt := 125) dX7_build_89 (by decide) (fun c_89 => ?_) (fun c_89 => ?_)
        · refine g_iinc (nI (i + 1)) dX7_build_125 (by rfl) (nI_inc i) ?_
          refine g_goto (tgt := 17) dX7_build_128 (by decide) ?_
          have h3eq : t_build σ lc τ (i + 1) = t_build σ lc τ i := by
            show t_step σ lc i (t_build σ lc τ i) = _
            rw [t_step, if_neg c_51, if_neg c_89]
          exact g_lv (ih (i + 1) h' (by omega) (by rw [h3eq]; exact ⟨ht, hR, hr, hri, hwy⟩) ⟨(by rw [← hc] at hd; exact hd), q1, q2, q3, q4⟩ hoff) ⟨rfl, rfl, rfl, rfl, trivial⟩
        · refine g_aload_n dX7_build_92 rfl (by rfl) ?_
          refine g_getf dX7_build_93 fX7_16 (by exact ht) (by omega) (by rfl) ?_
          refine g_aload_n dX7_build_96 rfl (by rfl) ?_
          refine g_getf dX7_build_97 fX7_23 (by exact ht) (by omega) (by rfl) ?_
          refine g_iload_n dX7_build_100 rfl (by rfl) ?_
          refine g_iast' dX7_build_101 (by first | exact hri | exact hwy | exact q1 | exact q2 | exact q3 | exact q4) (by omega) (by rfl) (by omega) (by omega) (fun h1 e1 => ?_)
          first | have ht_1 := s_up_off e1 (by omega) ht | have ht_1 := s_up_at e1
          first | have hR_1 := s_up_off e1 (by omega) hR | have hR_1 := s_up_at e1
          first | have hri_1 := s_up_off e1 (by omega) hri | have hri_1 := s_up_at e1
          first | have hwy_1 := s_up_off e1 (by omega) hwy | have hwy_1 := s_up_at e1
          first | have q1_1 := s_up_off e1 (by omega) q1 | have q1_1 := s_up_at e1
          first | have q2_1 := s_up_off e1 (by omega) q2 | have q2_1 := s_up_at e1
          first | have q3_1 := s_up_off e1 (by omega) q3 | have q3_1 := s_up_at e1
          first | have q4_1 := s_up_off e1 (by omega) q4 | have q4_1 := s_up_at e1
          first | have hd_1 := s_up_off e1 (by omega) hd | have hd_1 := s_up_at e1
          have hr_1 : ∀ r9, r9 < 15 → h1 (t + 2 + r9) = .inl (1, 101, .inr (.inl ((t_build σ lc τ i).1 r9))) := fun r9 z9 => s_up_off e1 (by omega) (hr r9 z9)
          refine g_aload_n dX7_build_102 rfl (by rfl) ?_
          refine g_dup dX7_build_103 (by rfl) ?_
          refine g_getf dX7_build_104 fX7_23 (by exact ht_1) (by omega) (by rfl) ?_
          refine g_iconst 1 dX7_build_107 (by rfl) ?_
          refine g_iadd dX7_build_108 ?_
          refine g_putf' dX7_build_109 pX7_23 (by exact ht_1) (by omega) (by exact Nat.le_of_ble_eq_true rfl) (by rfl) (by rfl) (fun h2 e2 => ?_)
          first | have ht_2 := s_up_off e2 (by omega) ht_1 | have ht_2 := s_up_at e2
          first | have hR_2 := s_up_off e2 (by omega) hR_1 | have hR_2 := s_up_at e2
          first | have hri_2 := s_up_off e2 (by omega) hri_1 | have hri_2 := s_up_at e2
          first | have hwy_2 := s_up_off e2 (by omega) hwy_1 | have hwy_2 := s_up_at e2
          first | have q1_2 := s_up_off e2 (by omega) q1_1 | have q1_2 := s_up_at e2
          first | have q2_2 := s_up_off e2 (by omega) q2_1 | have q2_2 := s_up_at e2
          first | have q3_2 := s_up_off e2 (by omega) q3_1 | have q3_2 := s_up_at e2
          first | have q4_2 := s_up_off e2 (by omega) q4_1 | have q4_2 := s_up_at e2
          first | have hd_2 := s_up_off e2 (by omega) hd_1 | have hd_2 := s_up_at e2
          have hr_2 : ∀ r9, r9 < 15 → h2 (t + 2 + r9) = .inl (1, 101, .inr (.inl ((t_build σ lc τ i).1 r9))) := fun r9 z9 => s_up_off e2 (by omega) (hr_1 r9 z9)
          refine g_aload_n dX7_build_112 rfl (by rfl) ?_
          refine g_aload_n dX7_build_113 rfl (by rfl) ?_
          refine g_getf dX7_build_114 fX7_43 (by exact hd_2) (by omega) (by rfl) ?_
          refine g_iload_n dX7_build_117 rfl (by rfl) ?_
          refine g_iald dX7_build_118 (by first | exact hri_2 | exact hwy_2 | exact q1_2 | exact q2_2 | exact q3_2 | exact q4_2) (by omega) (by rfl) (by omega) (by omega) ?_
          refine g_lload dX7_build_119 (by rfl) ?_
          refine g_iload_n dX7_build_121 rfl (by rfl) ?_
          rw [show σ.1 0 i = nI (σ.1 0 i).toNatClampNeg from hsz9]
          refine g_callV_p (c_X7_buildRow (r := (t_build σ lc τ i).2.2.2.1) (sz := (σ.1 0 i).toNatClampNeg) (lc := lc) (τ := ((t_build σ lc τ i).1, upd (t_build σ lc τ i).2.1 (t_build σ lc τ i).2.2.2.1 (nI i), (t_build σ lc τ i).2.2.1, (t_build σ lc τ i).2.2.2.1 + 1, (t_build σ lc τ i).2.2.2.2.1, (t_build σ lc τ i).2.2.2.2.2)) ⟨(by have z9 := ht_2; rw [nI_1] at z9; exact z9), hR_2, hr_2, hri_2, hwy_2⟩ hn rfl (by omega) _ (by omega) hlc) dX7_build_122 (mX7_buildRow) rfl lX7_53 iX7_buildRow vX7_buildRow (by decide) (by omega) (by exact ht_2) rfl rfl rfl rfl (Nat.le_of_ble_eq_true rfl) (fun v9 h9 q9 => ?_)
          obtain ⟨rfl, qrow, qoff⟩ := q9
          rw [← hsz9] at qrow
          have ht_3 := (qoff _ (by omega)).trans ht_2
          have hR_3 := (qoff _ (by omega)).trans hR_2
          have hri_3 := (qoff _ (by omega)).trans hri_2
          have hwy_3 := (qoff _ (by omega)).trans hwy_2
          have q1_3 := (qoff _ (by omega)).trans q1_2
          have q2_3 := (qoff _ (by omega)).trans q2_2
          have q3_3 := (qoff _ (by omega)).trans q3_2
          have q4_3 := (qoff _ (by omega)).trans q4_2
          have hd_3 := (qoff _ (by omega)).trans hd_2
          refine g_iinc (nI (i + 1)) dX7_build_125 (by rfl) (nI_inc i) ?_
          refine g_goto (tgt := 17) dX7_build_128 (by decide) ?_
          have h3eq : t_build σ lc τ (i + 1) = ((fun q => if q = (t_build σ lc τ i).2.2.2.1 + 1 then t_rc (t_build σ lc τ i).1 (t_build σ lc τ i).2.2.2.1 (σ.1 0 i).toNatClampNeg (r_rank (d_wt σ i) (σ.1 0 i) ((1 : Int32) <<< (nI i &&& 31))) (lc + 1) else (t_build σ lc τ i).1 q), upd (t_build σ lc τ i).2.1 (t_build σ lc τ i).2.2.2.1 (nI i), (t_build σ lc τ i).2.2.1, (t_build σ lc τ i).2.2.2.1 + 1, (t_build σ lc τ i).2.2.2.2.1, (t_build σ lc τ i).2.2.2.2.2) := by
            show t_step σ lc i (t_build σ lc τ i) = _
            rw [t_step, if_neg c_51, if_pos c_89]
          refine g_lv (ih (i + 1) h9 (by omega) ⟨by rw [h3eq]; have z9 := ht_3; rw [nI_1] at z9; exact z9, hR_3, ?_, by rw [h3eq]; exact hri_3, by rw [h3eq]; exact hwy_3⟩ ⟨(by rw [← hc] at hd_3; exact hd_3), q1_3, q2_3, q3_3, q4_3⟩ (((hoff.up e1 (by omega)).up e2 (by omega)).trans (qoff.wide (by omega) (by omega)))) ⟨rfl, rfl, rfl, rfl, trivial⟩
          intro q hq
          rw [h3eq]
          by_cases hqr : q = (t_build σ lc τ i).2.2.2.1 + 1
          · rw [hqr]
            refine qrow.trans ?_
            simp only [if_pos]
          · refine (qoff _ (by omega)).trans ?_
            simp only [if_neg hqr]
            exact hr_2 q hq
      · refine g_aload_n dX7_build_54 rfl (by rfl) ?_
        refine g_dup dX7_build_55 (by rfl) ?_
        refine g_getf dX7_build_56 fX7_27 (by exact ht) (by omega) (by rfl) ?_
        refine g_aload_n dX7_build_59 rfl (by rfl) ?_
        refine g_getf dX7_build_60 fX7_43 (by exact hd) (by omega) (by rfl) ?_
        refine g_iload_n dX7_build_63 rfl (by rfl) ?_
        refine g_iald dX7_build_64 (by first | exact hri | exact hwy | exact q1 | exact q2 | exact q3 | exact q4) (by omega) (by rfl) (by omega) (by omega) ?_
        refine g_iadd dX7_build_65 ?_
        refine g_putf' dX7_build_66 pX7_27 (by exact ht) (by omega) (by exact Nat.le_of_ble_eq_true rfl) (by rfl) (by rfl) (fun h4 e4 => ?_)
        first | have ht_4 := s_up_off e4 (by omega) ht | have ht_4 := s_up_at e4
        first | have hR_4 := s_up_off e4 (by omega) hR | have hR_4 := s_up_at e4
        first | have hri_4 := s_up_off e4 (by omega) hri | have hri_4 := s_up_at e4
        first | have hwy_4 := s_up_off e4 (by omega) hwy | have hwy_4 := s_up_at e4
        first | have q1_4 := s_up_off e4 (by omega) q1 | have q1_4 := s_up_at e4
        first | have q2_4 := s_up_off e4 (by omega) q2 | have q2_4 := s_up_at e4
        first | have q3_4 := s_up_off e4 (by omega) q3 | have q3_4 := s_up_at e4
        first | have q4_4 := s_up_off e4 (by omega) q4 | have q4_4 := s_up_at e4
        first | have hd_4 := s_up_off e4 (by omega) hd | have hd_4 := s_up_at e4
        have hr_4 : ∀ r9, r9 < 15 → h4 (t + 2 + r9) = .inl (1, 101, .inr (.inl ((t_build σ lc τ i).1 r9))) := fun r9 z9 => s_up_off e4 (by omega) (hr r9 z9)
        refine g_aload_n dX7_build_69 rfl (by rfl) ?_
        refine g_dup dX7_build_70 (by rfl) ?_
        refine g_getf dX7_build_71 fX7_30 (by exact ht_4) (by omega) (by rfl) ?_
        refine g_lload dX7_build_74 (by rfl) ?_
        refine g_ladd dX7_build_76 ?_
        refine g_putf' dX7_build_77 pX7_30 (by exact ht_4) (by omega) (by exact Nat.le_of_ble_eq_true rfl) (by rfl) (by rfl) (fun h5 e5 => ?_)
        first | have ht_5 := s_up_off e5 (by omega) ht_4 | have ht_5 := s_up_at e5
        first | have hR_5 := s_up_off e5 (by omega) hR_4 | have hR_5 := s_up_at e5
        first | have hri_5 := s_up_off e5 (by omega) hri_4 | have hri_5 := s_up_at e5
        first | have hwy_5 := s_up_off e5 (by omega) hwy_4 | have hwy_5 := s_up_at e5
        first | have q1_5 := s_up_off e5 (by omega) q1_4 | have q1_5 := s_up_at e5
        first | have q2_5 := s_up_off e5 (by omega) q2_4 | have q2_5 := s_up_at e5
        first | have q3_5 := s_up_off e5 (by omega) q3_4 | have q3_5 := s_up_at e5
        first | have q4_5 := s_up_off e5 (by omega) q4_4 | have q4_5 := s_up_at e5
        first | have hd_5 := s_up_off e5 (by omega) hd_4 | have hd_5 := s_up_at e5
        have hr_5 : ∀ r9, r9 < 15 → h5 (t + 2 + r9) = .inl (1, 101, .inr (.inl ((t_build σ lc τ i).1 r9))) := fun r9 z9 => s_up_off e5 (by omega) (hr_4 r9 z9)
        refine g_goto (tgt := 125) dX7_build_80 (by decide) ?_
        refine g_iinc (nI (i + 1)) dX7_build_125 (by rfl) (nI_inc i) ?_
        refine g_goto (tgt := 17) dX7_build_128 (by decide) ?_
        have h3eq : t_build σ lc τ (i + 1) = ((t_build σ lc τ i).1, (t_build σ lc τ i).2.1, (t_build σ lc τ i).2.2.1, (t_build σ lc τ i).2.2.2.1, (t_build σ lc τ i).2.2.2.2.1 + σ.1 0 i, (t_build σ lc τ i).2.2.2.2.2 + r_rank (d_wt σ i) (σ.1 0 i) ((1 : Int32) <<< (nI i &&& 31))) := by
          show t_step σ lc i (t_build σ lc τ i) = _
          rw [t_step, if_pos c_51]
        exact g_lv (ih (i + 1) h5 (by omega) ⟨by rw [h3eq]; exact ht_5, by exact hR_5, by rw [h3eq]; exact hr_5, by rw [h3eq]; exact hri_5, by rw [h3eq]; exact hwy_5⟩ ⟨(by rw [← hc] at hd_5; exact hd_5), q1_5, q2_5, q3_5, q4_5⟩ ((hoff.up e4 (by omega)).up e5 (by omega))) ⟨rfl, rfl, rfl, rfl, trivial⟩
  obtain ⟨ht, hR, hr, hri, hwy⟩ := hT
  obtain ⟨hd, q1, q2, q3, q4⟩ := hD
  refine s_Mt_of rfl (by decide) (by exact Nat.le_of_ble_eq_true rfl) ?_
  refine g_aload_n dX7_build_0 rfl (by rfl) ?_
  refine g_iconst 0 dX7_build_1 (by rfl) ?_
  refine g_putf' dX7_build_2 pX7_23 (by exact ht) (by omega) (by exact Nat.le_of_ble_eq_true rfl) (by rfl) (by rfl) (fun h1 e1 => ?_)
  first | have ht_1 := s_up_off e1 (by omega) ht | have ht_1 := s_up_at e1
  first | have hri_1 := s_up_off e1 (by omega) hri | have hri_1 := s_up_at e1
  first | have hwy_1 := s_up_off e1 (by omega) hwy | have hwy_1 := s_up_at e1
  first | have q1_1 := s_up_off e1 (by omega) q1 | have q1_1 := s_up_at e1
  first | have q2_1 := s_up_off e1 (by omega) q2 | have q2_1 := s_up_at e1
  first | have q3_1 := s_up_off e1 (by omega) q3 | have q3_1 := s_up_at e1
  first | have q4_1 := s_up_off e1 (by omega) q4 | have q4_1 := s_up_at e1
  first | have hR_1 := s_up_off e1 (by omega) hR | have hR_1 := s_up_at e1
  first | have hd_1 := s_up_off e1 (by omega) hd | have hd_1 := s_up_at e1
  have hr_1 : ∀ r9, r9 < 15 → h1 (t + 2 + r9) = .inl (1, 101, .inr (.inl (τ.1 r9))) := fun r9 z9 => s_up_off e1 (by omega) (hr r9 z9)
  refine g_aload_n dX7_build_5 rfl (by rfl) ?_
  refine g_iconst 0 dX7_build_6 (by rfl) ?_
  refine g_putf' dX7_build_7 pX7_27 (by exact ht_1) (by omega) (by exact Nat.le_of_ble_eq_true rfl) (by rfl) (by rfl) (fun h2 e2 => ?_)
  first | have ht_2 := s_up_off e2 (by omega) ht_1 | have ht_2 := s_up_at e2
  first | have hri_2 := s_up_off e2 (by omega) hri_1 | have hri_2 := s_up_at e2
  first | have hwy_2 := s_up_off e2 (by omega) hwy_1 | have hwy_2 := s_up_at e2
  first | have q1_2 := s_up_off e2 (by omega) q1_1 | have q1_2 := s_up_at e2
  first | have q2_2 := s_up_off e2 (by omega) q2_1 | have q2_2 := s_up_at e2
  first | have q3_2 := s_up_off e2 (by omega) q3_1 | have q3_2 := s_up_at e2
  first | have q4_2 := s_up_off e2 (by omega) q4_1 | have q4_2 := s_up_at e2
  first | have hR_2 := s_up_off e2 (by omega) hR_1 | have hR_2 := s_up_at e2
  first | have hd_2 := s_up_off e2 (by omega) hd_1 | have hd_2 := s_up_at e2
  have hr_2 : ∀ r9, r9 < 15 → h2 (t + 2 + r9) = .inl (1, 101, .inr (.inl (τ.1 r9))) := fun r9 z9 => s_up_off e2 (by omega) (hr_1 r9 z9)
  refine g_aload_n dX7_build_10 rfl (by rfl) ?_
  refine g_lconst 0 dX7_build_11 (by rfl) ?_
  refine g_putf' dX7_build_12 pX7_30 (by exact ht_2) (by omega) (by exact Nat.le_of_ble_eq_true rfl) (by rfl) (by rfl) (fun h3 e3 => ?_)
  first | have ht_3 := s_up_off e3 (by omega) ht_2 | have ht_3 := s_up_at e3
  first | have hri_3 := s_up_off e3 (by omega) hri_2 | have hri_3 := s_up_at e3
  first | have hwy_3 := s_up_off e3 (by omega) hwy_2 | have hwy_3 := s_up_at e3
  first | have q1_3 := s_up_off e3 (by omega) q1_2 | have q1_3 := s_up_at e3
  first | have q2_3 := s_up_off e3 (by omega) q2_2 | have q2_3 := s_up_at e3
  first | have q3_3 := s_up_off e3 (by omega) q3_2 | have q3_3 := s_up_at e3
  first | have q4_3 := s_up_off e3 (by omega) q4_2 | have q4_3 := s_up_at e3
  first | have hR_3 := s_up_off e3 (by omega) hR_2 | have hR_3 := s_up_at e3
  first | have hd_3 := s_up_off e3 (by omega) hd_2 | have hd_3 := s_up_at e3
  have hr_3 : ∀ r9, r9 < 15 → h3 (t + 2 + r9) = .inl (1, 101, .inr (.inl (τ.1 r9))) := fun r9 z9 => s_up_off e3 (by omega) (hr_2 r9 z9)
  refine g_iconst 0 dX7_build_15 (by rfl) ?_
  refine g_istore_n dX7_build_16 rfl (by decide) ?_
  exact g_lv (loop cnt 0 h3 (by omega) ⟨ht_3, hR_3, hr_3, hri_3, hwy_3⟩ ⟨hd_3, q1_3, q2_3, q3_3, q4_3⟩ ((((s_off.rf (a := t) (b := t + 19)).up e1 (by omega)).up e2 (by omega)).up e3 (by omega))) ⟨rfl, rfl, rfl, rfl, trivial⟩
