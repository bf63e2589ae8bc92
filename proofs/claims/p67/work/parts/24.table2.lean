/-! TABLE: how many sets; DISK: a backup -/
theorem g_top {T : s_T} {Φ : s_P} {pc : Nat} {lv : s_V} {st : List Value} {h : s_H} {n kc ks : Nat} {x : Int32} (y : Int32) (e : x = y) (k : s_G T Φ pc lv (.int y :: st) h n kc ks) : s_G T Φ pc lv (.int x :: st) h n kc ks := e ▸ k
def t_nw (R : Nat → Nat → Int64) (wy : Nat → Int32) (r sz : Nat) (wt : Int32) (c : Nat) : Int32 :=
  if sz ≤ c ∧ r_wt (R r (c - sz)) + wt = r_wt (R (r + 1) c) then (if r_wt (R r c) = r_wt (R (r + 1) c) then wy c else 0) + wy (c - sz) else (if r_wt (R r c) = r_wt (R (r + 1) c) then wy c else 0)
def t_wq (R : Nat → Nat → Int64) (wy : Nat → Int32) (r sz : Nat) (wt : Int32) (rm k : Nat) : Nat → Int32 := fun x => if k ≤ x ∧ x ≤ rm then t_nw R wy r sz wt x else wy x
theorem t_wq_0 {R : Nat → Nat → Int64} {wy : Nat → Int32} {r sz : Nat} {wt : Int32} {rm : Nat} : t_wq R wy r sz wt rm (rm + 1) = wy := by
  funext x
  simp only [t_wq]
  rw [if_neg (show ¬ (rm + 1 ≤ x ∧ x ≤ rm) by omega)]
theorem t_wq_at {R : Nat → Nat → Int64} {wy : Nat → Int32} {r sz : Nat} {wt : Int32} {rm k x : Nat} (hx : x < k) : t_wq R wy r sz wt rm k x = wy x := by
  simp only [t_wq]
  rw [if_neg (show ¬ (k ≤ x ∧ x ≤ rm) by omega)]
theorem t_wq_s {R : Nat → Nat → Int64} {wy : Nat → Int32} {r sz : Nat} {wt v : Int32} {rm k : Nat} (hk : k ≤ rm) (hv : v = t_nw R wy r sz wt k) : upd (t_wq R wy r sz wt rm (k + 1)) k v = t_wq R wy r sz wt rm k := by
  funext x
  simp only [upd, t_wq]
  by_cases hx : x = k
  · subst hx
    rw [if_pos rfl, if_pos (show x ≤ x ∧ x ≤ rm from ⟨Nat.le_refl _, hk⟩), hv]
  · rw [if_neg hx]
    by_cases h1 : k + 1 ≤ x ∧ x ≤ rm
    · rw [if_pos h1, if_pos (show k ≤ x ∧ x ≤ rm by omega)]
    · rw [if_neg h1, if_neg (show ¬ (k ≤ x ∧ x ≤ rm) by omega)]
def t_one (wy : Nat → Int32) (b : Nat) : Nat → Int32 := fun x => if x < b then 1 else wy x
theorem t_one_0 {wy : Nat → Int32} : t_one wy 0 = wy := by funext x; simp [t_one]
theorem t_one_s {wy : Nat → Int32} {b : Nat} : upd (t_one wy b) b 1 = t_one wy (b + 1) := by
  funext x
  simp only [upd, t_one]
  by_cases hx : x = b
  · subst hx
    rw [if_pos rfl, if_pos (Nat.lt_succ_self _)]
  · rw [if_neg hx]
    by_cases h1 : x < b
    · rw [if_pos h1, if_pos (by omega)]
    · rw [if_neg h1, if_neg (by omega)]
def t_ow (τ : s_Tb) (σ : s_D) (rm : Nat) : Nat → Nat → Int32
  | 0 => t_one τ.2.2.1 (rm + 1)
  | r + 1 => t_wq τ.1 (t_ow τ σ rm r) r (σ.1 0 (τ.2.1 r).toNatClampNeg).toNatClampNeg (d_wt σ (τ.2.1 r).toNatClampNeg) rm 0
def t_wy (τ : s_Tb) (wy : Nat → Int32) : s_Tb := (τ.1, τ.2.1, wy, τ.2.2.2)
/-- outside two stretches nothing has changed -/
def s_off2 (h h1 : s_H) (a b c e : Nat) : Prop := ∀ j, (j < a ∨ b ≤ j) → (j < c ∨ e ≤ j) → h1 j = h j
theorem s_off2.of1 {h h1 : s_H} {a b c e : Nat} (q : s_off h h1 a b) : s_off2 h h1 a b c e := fun j h1 _ => q j h1
theorem s_off2.of2 {h h1 : s_H} {a b c e : Nat} (q : s_off h h1 c e) : s_off2 h h1 a b c e := fun j _ h2 => q j h2
theorem s_off2.trans {h h1 h2 : s_H} {a b c e : Nat} (q : s_off2 h h1 a b c e) (r : s_off2 h1 h2 a b c e) : s_off2 h h2 a b c e := fun j z1 z2 => (r j z1 z2).trans (q j z1 z2)
def d_ag (g : Nat → Int32) (set : Int32) (i : Nat) : Nat → Int32 := fun j => if j < i then (if s_bit set (nI j) = 0 then (if g j < 9 then g j + 1 else g j) else 0) else g j
theorem d_ag_at {g : Nat → Int32} {set : Int32} {i : Nat} : d_ag g set i i = g i := by simp [d_ag]
theorem d_ag_0 {g : Nat → Int32} {set : Int32} : d_ag g set 0 = g := by funext j; simp [d_ag]
theorem d_ag_s {g : Nat → Int32} {set v : Int32} {i : Nat} (hv : v = if s_bit set (nI i) = 0 then (if g i < 9 then g i + 1 else g i) else 0) : upd (d_ag g set i) i v = d_ag g set (i + 1) := by
  funext x
  simp only [upd, d_ag]
  by_cases hx : x = i
  · subst hx
    rw [if_pos rfl, if_pos (Nat.lt_succ_self _), hv]
  · rw [if_neg hx]
    by_cases h1 : x < i
    · rw [if_pos h1, if_pos (show x < i + 1 by omega)]
    · rw [if_neg h1, if_neg (show ¬ x < i + 1 by omega)]
theorem d_ag_n {g : Nat → Int32} {set : Int32} {i : Nat} (h1 : s_bit set (nI i) = 0) (h2 : ¬ g i < 9) : d_ag g set (i + 1) = d_ag g set i := by
  funext x
  simp only [d_ag]
  by_cases hx : x = i
  · subst hx
    rw [if_pos (Nat.lt_succ_self _), if_pos h1, if_neg h2, if_neg (Nat.lt_irrefl _)]
  · by_cases h1 : x < i
    · rw [if_pos h1, if_pos (show x < i + 1 by omega)]
    · rw [if_neg h1, if_neg (show ¬ x < i + 1 by omega)]
def d_age (σ : s_D) (set : Int32) (i : Nat) : s_D := (fun f => match f with
  | 0 => σ.1 0
  | 1 => σ.1 1
  | 2 => d_ag (σ.1 2) set i
  | 3 => σ.1 3
  | f => σ.1 f, σ.2)
def d_bk0 (σ : s_D) (set : Int32) (cnt : Nat) : s_D := (σ.1, d_mk (σ.2 0) (σ.2 1) (σ.2 2 + 1) (σ.2 3 + d_tot (σ.1 0) set cnt) (σ.2 4 + d_tot (d_wt σ) set cnt))
def d_bk (σ : s_D) (set : Int32) (cnt : Nat) : s_D := d_age (d_bk0 σ set cnt) set cnt
/-- what a backup takes -/
def d_tk (σ : s_D) (τ : s_Tb) (cp cnt : Nat) : Int32 := r_se (t_best (t_build σ cp τ cnt) (nI cp))

theorem c_X7_countRow {h : s_H} {n t r sz rm : Nat} {τ : s_Tb} (hT : s_tab h t τ) (hn : t + 18 < n) (hr9 : r < 14) (wt : Int32) (hsz : sz < 2147483648) (hrm : rm < 101) : s_Mt TX7_countRow 0 0 [.ref t, .int (nI (r + 1)), .int (nI rm), .int (nI sz), .int wt] h n (s_rp n (fun v9 h1 => v9 = none ∧ s_tab h1 t (t_wy τ (t_wq τ.1 τ.2.2.1 r sz wt rm 0)) ∧ s_off h h1 t (t + 19)) s_no) := by
  have loop : ∀ (k : Nat) (h' : s_H), k ≤ rm + 1 → s_tab h' t (t_wy τ (t_wq τ.1 τ.2.2.1 r sz wt rm k)) → s_off h h' t (t + 19) → s_G TX7_countRow (s_rp n (fun v9 h1 => v9 = none ∧ s_tab h1 t (t_wy τ (t_wq τ.1 τ.2.2.1 r sz wt rm 0)) ∧ s_off h h1 t (t + 19)) s_no) 3 (s_lvs [(0, .ref t), (1, .int (nI (r + 1))), (2, .int (nI rm)), (3, .int (nI sz)), (4, .int wt), (5, .int (nI k + (-1)))]) [] h' n 0 0 := by
    intro k
    induction k with
    | zero =>
      intro h' hk hT hoff
      refine g_iload dX7_countRow_3 (by rfl) ?_
      refine g_if_lt (tgt := 98) dX7_countRow_5 (by decide) (fun _ => ?_) (fun c_5 => absurd (show nI 0 + (-1) < 0 by decide) c_5)
      refine g_vreturn dX7_countRow_98 rfl ?_
      exact ⟨rfl, rfl, hT, hoff⟩
    | succ k ih =>
      intro h' hk hT hoff
      obtain ⟨ht, hR, hr, hri, hwy⟩ := hT
      rw [pk_m1 k]
      refine g_iload dX7_countRow_3 (by rfl) ?_
      refine g_if_lt (tgt := 98) dX7_countRow_5 (by decide) (fun c_5 => absurd c_5 (nI_pos (by omega))) (fun _ => ?_)
      refine g_aload_n dX7_countRow_8 rfl (by rfl) ?_
      refine g_iload_n dX7_countRow_9 rfl (by rfl) ?_
      refine g_iload dX7_countRow_10 (by rfl) ?_
      refine g_callV_e (c_X7_cellWeight (r := r + 1) (c := k) (τ := (t_wy τ (t_wq τ.1 τ.2.2.1 r sz wt rm (k + 1)))) ⟨ht, hR, hr, hri, hwy⟩ hn (by omega) (by omega)) dX7_countRow_12 (mX7_cellWeight) rfl lX7_71 iX7_cellWeight vX7_cellWeight (by decide) (by omega) (by exact ht) rfl rfl rfl rfl (Nat.le_of_ble_eq_true rfl) ?_
      refine g_istore dX7_countRow_15 (by decide) ?_
      refine g_aload_n dX7_countRow_17 rfl (by rfl) ?_
      refine g_iload_n dX7_countRow_18 rfl (by rfl) ?_
      refine g_iconst 1 dX7_countRow_19 (by rfl) ?_
      refine g_isub dX7_countRow_20 ?_
      rw [nI_pred r]
      refine g_iload dX7_countRow_21 (by rfl) ?_
      refine g_callV_e (c_X7_cellWeight (r := r) (c := k) (τ := (t_wy τ (t_wq τ.1 τ.2.2.1 r sz wt rm (k + 1)))) ⟨ht, hR, hr, hri, hwy⟩ hn (by omega) (by omega)) dX7_countRow_23 (mX7_cellWeight) rfl lX7_71 iX7_cellWeight vX7_cellWeight (by decide) (by omega) (by exact ht) rfl rfl rfl rfl (Nat.le_of_ble_eq_true rfl) ?_
      refine g_iload dX7_countRow_26 (by rfl) ?_
      refine g_icmp_ne (tgt := 41) dX7_countRow_28 (by decide) (fun c_28 => ?_) (fun c_28 => ?_)
      · have hA : (0 : Int32) = (if r_wt (τ.1 r k) = r_wt (τ.1 (r + 1) k) then τ.2.2.1 k else 0) := by rw [if_neg (show ¬ r_wt (τ.1 r k) = r_wt (τ.1 (r + 1) k) from c_28)]
        refine g_iconst 0 dX7_countRow_41 (by rfl) ?_
        refine g_top (if r_wt (τ.1 r k) = r_wt (τ.1 (r + 1) k) then τ.2.2.1 k else 0) hA ?_
        refine g_istore dX7_countRow_42 (by decide) ?_
        refine g_iload dX7_countRow_44 (by rfl) ?_
        refine g_iload_n dX7_countRow_46 rfl (by rfl) ?_
        refine g_icmp_lt (tgt := 83) dX7_countRow_47 (by decide) (fun c_47 => ?_) (fun c_47 => ?_)
        · have hv : (if r_wt (τ.1 r k) = r_wt (τ.1 (r + 1) k) then τ.2.2.1 k else 0) = t_nw τ.1 τ.2.2.1 r sz wt k := by
            rw [t_nw, if_neg (show ¬ (sz ≤ k ∧ r_wt (τ.1 r (k - sz)) + wt = r_wt (τ.1 (r + 1) k)) from fun z => absurd z.1 (Nat.not_le.mpr ((nI_ltI (by omega) (by omega)).mp c_47)))]
          refine g_aload_n dX7_countRow_83 rfl (by rfl) ?_
          refine g_getf dX7_countRow_84 fX7_20 (by exact ht) (by omega) (by rfl) ?_
          refine g_iload dX7_countRow_87 (by rfl) ?_
          refine g_iload dX7_countRow_89 (by rfl) ?_
          refine g_top (t_nw τ.1 τ.2.2.1 r sz wt k) hv ?_
          refine g_iast' dX7_countRow_91 (by first | exact hri | exact hwy) (by omega) (by rfl) (by omega) (by omega) (fun h1 e1 => ?_)
          first | have ht_1 := s_up_off e1 (by omega) ht | have ht_1 := s_up_at e1
          first | have hR_1 := s_up_off e1 (by omega) hR | have hR_1 := s_up_at e1
          first | have hri_1 := s_up_off e1 (by omega) hri | have hri_1 := s_up_at e1
          first | have hwy_1 := s_up_off e1 (by omega) hwy | have hwy_1 := s_up_at e1
          have hr_1 : ∀ r9, r9 < 15 → h1 (t + 2 + r9) = .inl (1, 101, .inr (.inl (τ.1 r9))) := fun r9 z9 => s_up_off e1 (by omega) (hr r9 z9)
          refine g_iinc (nI k + (-1)) dX7_countRow_92 (by rfl) rfl ?_
          refine g_goto (tgt := 3) dX7_countRow_95 (by decide) ?_
          exact g_lv (ih h1 (by omega) ⟨ht_1, hR_1, hr_1, hri_1, (by show _ = Sum.inl (0, 101, Sum.inl (t_wq τ.1 τ.2.2.1 r sz wt rm k)); rw [← t_wq_s (by omega) rfl]; exact hwy_1)⟩ (hoff.up e1 (by omega))) ⟨rfl, rfl, rfl, rfl, rfl, rfl, trivial⟩
        · have hle : sz ≤ k := Nat.not_lt.mp (fun z => c_47 (nI_lt z (by omega)))
          refine g_aload_n dX7_countRow_50 rfl (by rfl) ?_
          refine g_iload_n dX7_countRow_51 rfl (by rfl) ?_
          refine g_iconst 1 dX7_countRow_52 (by rfl) ?_
          refine g_isub dX7_countRow_53 ?_
          rw [nI_pred r]
          refine g_iload dX7_countRow_54 (by rfl) ?_
          refine g_iload_n dX7_countRow_56 rfl (by rfl) ?_
          refine g_isub dX7_countRow_57 ?_
          rw [pk_sub hle]
          refine g_callV_e (c_X7_cellWeight (r := r) (c := (k - sz)) (τ := (t_wy τ (t_wq τ.1 τ.2.2.1 r sz wt rm (k + 1)))) ⟨ht, hR, hr, hri, hwy⟩ hn (by omega) (by omega)) dX7_countRow_58 (mX7_cellWeight) rfl lX7_71 iX7_cellWeight vX7_cellWeight (by decide) (by omega) (by exact ht) rfl rfl rfl rfl (Nat.le_of_ble_eq_true rfl) ?_
          refine g_iload dX7_countRow_61 (by rfl) ?_
          refine g_iadd dX7_countRow_63 ?_
          refine g_iload dX7_countRow_64 (by rfl) ?_
          refine g_icmp_ne (tgt := 83) dX7_countRow_66 (by decide) (fun c_66 => ?_) (fun c_66 => ?_)
          · have hv : (if r_wt (τ.1 r k) = r_wt (τ.1 (r + 1) k) then τ.2.2.1 k else 0) = t_nw τ.1 τ.2.2.1 r sz wt k := by
              rw [t_nw, if_neg (show ¬ (sz ≤ k ∧ r_wt (τ.1 r (k - sz)) + wt = r_wt (τ.1 (r + 1) k)) from fun z => c_66 z.2)]
            refine g_aload_n dX7_countRow_83 rfl (by rfl) ?_
            refine g_getf dX7_countRow_84 fX7_20 (by exact ht) (by omega) (by rfl) ?_
            refine g_iload dX7_countRow_87 (by rfl) ?_
            refine g_iload dX7_countRow_89 (by rfl) ?_
            refine g_top (t_nw τ.1 τ.2.2.1 r sz wt k) hv ?_
            refine g_iast' dX7_countRow_91 (by first | exact hri | exact hwy) (by omega) (by rfl) (by omega) (by omega) (fun h2 e2 => ?_)
            first | have ht_2 := s_up_off e2 (by omega) ht | have ht_2 := s_up_at e2
            first | have hR_2 := s_up_off e2 (by omega) hR | have hR_2 := s_up_at e2
            first | have hri_2 := s_up_off e2 (by omega) hri | have hri_2 := s_up_at e2
            first | have hwy_2 := s_up_off e2 (by omega) hwy | have hwy_2 := s_up_at e2
            have hr_2 : ∀ r9, r9 < 15 → h2 (t + 2 + r9) = .inl (1, 101, .inr (.inl (τ.1 r9))) := fun r9 z9 => s_up_off e2 (by omega) (hr r9 z9)
            refine g_iinc (nI k + (-1)) dX7_countRow_92 (by rfl) rfl ?_
            refine g_goto (tgt := 3) dX7_countRow_95 (by decide) ?_
            exact g_lv (ih h2 (by omega) ⟨ht_2, hR_2, hr_2, hri_2, (by show _ = Sum.inl (0, 101, Sum.inl (t_wq τ.1 τ.2.2.1 r sz wt rm k)); rw [← t_wq_s (by omega) rfl]; exact hwy_2)⟩ (hoff.up e2 (by omega))) ⟨rfl, rfl, rfl, rfl, rfl, rfl, trivial⟩
          · have hv : (if r_wt (τ.1 r k) = r_wt (τ.1 (r + 1) k) then τ.2.2.1 k else 0) + (t_wy τ (t_wq τ.1 τ.2.2.1 r sz wt rm (k + 1))).2.2.1 (k - sz) = t_nw τ.1 τ.2.2.1 r sz wt k := by
              rw [t_nw, if_pos (show sz ≤ k ∧ r_wt (τ.1 r (k - sz)) + wt = r_wt (τ.1 (r + 1) k) from ⟨hle, c_66⟩)]
              rw [show (t_wy τ (t_wq τ.1 τ.2.2.1 r sz wt rm (k + 1))).2.2.1 (k - sz) = τ.2.2.1 (k - sz) from t_wq_at (by omega)]
            refine g_iload dX7_countRow_69 (by rfl) ?_
            refine g_aload_n dX7_countRow_71 rfl (by rfl) ?_
            refine g_getf dX7_countRow_72 fX7_20 (by exact ht) (by omega) (by rfl) ?_
            refine g_iload dX7_countRow_75 (by rfl) ?_
            refine g_iload_n dX7_countRow_77 rfl (by rfl) ?_
            refine g_isub dX7_countRow_78 ?_
            refine g_iald dX7_countRow_79 (by first | exact hri | exact hwy) (by omega) (by exact pk_sub hle) (by omega) (by omega) ?_
            refine g_iadd dX7_countRow_80 ?_
            refine g_istore dX7_countRow_81 (by decide) ?_
            refine g_aload_n dX7_countRow_83 rfl (by rfl) ?_
            refine g_getf dX7_countRow_84 fX7_20 (by exact ht) (by omega) (by rfl) ?_
            refine g_iload dX7_countRow_87 (by rfl) ?_
            refine g_iload dX7_countRow_89 (by rfl) ?_
            refine g_top (t_nw τ.1 τ.2.2.1 r sz wt k) hv ?_
            refine g_iast' dX7_countRow_91 (by first | exact hri | exact hwy) (by omega) (by rfl) (by omega) (by omega) (fun h3 e3 => ?_)
            first | have ht_3 := s_up_off e3 (by omega) ht | have ht_3 := s_up_at e3
            first | have hR_3 := s_up_off e3 (by omega) hR | have hR_3 := s_up_at e3
            first | have hri_3 := s_up_off e3 (by omega) hri | have hri_3 := s_up_at e3
            first | have hwy_3 := s_up_off e3 (by omega) hwy | have hwy_3 := s_up_at e3
            have hr_3 : ∀ r9, r9 < 15 → h3 (t + 2 + r9) = .inl (1, 101, .inr (.inl (τ.1 r9))) := fun r9 z9 => s_up_off e3 (by omega) (hr r9 z9)
            refine g_iinc (nI k + (-1)) dX7_countRow_92 (by rfl) rfl ?_
            refine g_goto (tgt := 3) dX7_countRow_95 (by decide) ?_
            exact g_lv (ih h3 (by omega) ⟨ht_3, hR_3, hr_3, hri_3, (by show _ = Sum.inl (0, 101, Sum.inl (t_wq τ.1 τ.2.2.1 r sz wt rm k)); rw [← t_wq_s (by omega) rfl]; exact hwy_3)⟩ (hoff.up e3 (by omega))) ⟨rfl, rfl, rfl, rfl, rfl, rfl, trivial⟩
      · have hA : (t_wy τ (t_wq τ.1 τ.2.2.1 r sz wt rm (k + 1))).2.2.1 k = (if r_wt (τ.1 r k) = r_wt (τ.1 (r + 1) k) then τ.2.2.1 k else 0) := by
          rw [if_pos (show r_wt (τ.1 r k) = r_wt (τ.1 (r + 1) k) from c_28)]
          exact t_wq_at (by omega)
        refine g_aload_n dX7_countRow_31 rfl (by rfl) ?_
        refine g_getf dX7_countRow_32 fX7_20 (by exact ht) (by omega) (by rfl) ?_
        refine g_iload dX7_countRow_35 (by rfl) ?_
        refine g_iald dX7_countRow_37 (by first | exact hri | exact hwy) (by omega) (by rfl) (by omega) (by omega) ?_
        refine g_goto (tgt := 42) dX7_countRow_38 (by decide) ?_
        refine g_top (if r_wt (τ.1 r k) = r_wt (τ.1 (r + 1) k) then τ.2.2.1 k else 0) hA ?_
        refine g_istore dX7_countRow_42 (by decide) ?_
        refine g_iload dX7_countRow_44 (by rfl) ?_
        refine g_iload_n dX7_countRow_46 rfl (by rfl) ?_
        refine g_icmp_lt (tgt := 83) dX7_countRow_47 (by decide) (fun c_47 => ?_) (fun c_47 => ?_)
        · have hv : (if r_wt (τ.1 r k) = r_wt (τ.1 (r + 1) k) then τ.2.2.1 k else 0) = t_nw τ.1 τ.2.2.1 r sz wt k := by
            rw [t_nw, if_neg (show ¬ (sz ≤ k ∧ r_wt (τ.1 r (k - sz)) + wt = r_wt (τ.1 (r + 1) k)) from fun z => absurd z.1 (Nat.not_le.mpr ((nI_ltI (by omega) (by omega)).mp c_47)))]
          refine g_aload_n dX7_countRow_83 rfl (by rfl) ?_
          refine g_getf dX7_countRow_84 fX7_20 (by exact ht) (by omega) (by rfl) ?_
          refine g_iload dX7_countRow_87 (by rfl) ?_
          refine g_iload dX7_countRow_89 (by rfl) ?_
          refine g_top (t_nw τ.1 τ.2.2.1 r sz wt k) hv ?_
          refine g_iast' dX7_countRow_91 (by first | exact hri | exact hwy) (by omega) (by rfl) (by omega) (by omega) (fun h4 e4 => ?_)
          first | have ht_4 := s_up_off e4 (by omega) ht | have ht_4 := s_up_at e4
          first | have hR_4 := s_up_off e4 (by omega) hR | have hR_4 := s_up_at e4
          first | have hri_4 := s_up_off e4 (by omega) hri | have hri_4 := s_up_at e4
          first | have hwy_4 := s_up_off e4 (by omega) hwy | have hwy_4 := s_up_at e4
          have hr_4 : ∀ r9, r9 < 15 → h4 (t + 2 + r9) = .inl (1, 101, .inr (.inl (τ.1 r9))) := fun r9 z9 => s_up_off e4 (by omega) (hr r9 z9)
          refine g_iinc (nI k + (-1)) dX7_countRow_92 (by rfl) rfl ?_
          refine g_goto (tgt := 3) dX7_countRow_95 (by decide) ?_
          exact g_lv (ih h4 (by omega) ⟨ht_4, hR_4, hr_4, hri_4, (by show _ = Sum.inl (0, 101, Sum.inl (t_wq τ.1 τ.2.2.1 r sz wt rm k)); rw [← t_wq_s (by omega) rfl]; exact hwy_4)⟩ (hoff.up e4 (by omega))) ⟨rfl, rfl, rfl, rfl, rfl, rfl, trivial⟩
        · have hle : sz ≤ k := Nat.not_lt.mp (fun z => c_47 (nI_lt z (by omega)))
          refine g_aload_n dX7_countRow_50 rfl (by rfl) ?_
          refine g_iload_n dX7_countRow_51 rfl (by rfl) ?_
          refine g_iconst 1 dX7_countRow_52 (by rfl) ?_
          refine g_isub dX7_countRow_53 ?_
          rw [nI_pred r]
          refine g_iload dX7_countRow_54 (by rfl) ?_
          refine g_iload_n dX7_countRow_56 rfl (by rfl) ?_
          refine g_isub dX7_countRow_57 ?_
          rw [pk_sub hle]
          refine g_callV_e (c_X7_cellWeight (r := r) (c := (k - sz)) (τ := (t_wy τ (t_wq τ.1 τ.2.2.1 r sz wt rm (k + 1)))) ⟨ht, hR, hr, hri, hwy⟩ hn (by omega) (by omega)) dX7_countRow_58 (mX7_cellWeight) rfl lX7_71 iX7_cellWeight vX7_cellWeight (by decide) (by omega) (by exact ht) rfl rfl rfl rfl (Nat.le_of_ble_eq_true rfl) ?_
          refine g_iload dX7_countRow_61 (by rfl) ?_
          refine g_iadd dX7_countRow_63 ?_
          refine g_iload dX7_countRow_64 (by rfl) ?_
          refine g_icmp_ne (tgt := 83) dX7_countRow_66 (by decide) (fun c_66 => ?_) (fun c_66 => ?_)
          · have hv : (if r_wt (τ.1 r k) = r_wt (τ.1 (r + 1) k) then τ.2.2.1 k else 0) = t_nw τ.1 τ.2.2.1 r sz wt k := by
              rw [t_nw, if_neg (show ¬ (sz ≤ k ∧ r_wt (τ.1 r (k - sz)) + wt = r_wt (τ.1 (r + 1) k)) from fun z => c_66 z.2)]
            refine g_aload_n dX7_countRow_83 rfl (by rfl) ?_
            refine g_getf dX7_countRow_84 fX7_20 (by exact ht) (by omega) (by rfl) ?_
            refine g_iload dX7_countRow_87 (by rfl) ?_
            refine g_iload dX7_countRow_89 (by rfl) ?_
            refine g_top (t_nw τ.1 τ.2.2.1 r sz wt k) hv ?_
            refine g_iast' dX7_countRow_91 (by first | exact hri | exact hwy) (by omega) (by rfl) (by omega) (by omega) (fun h5 e5 => ?_)
            first | have ht_5 := s_up_off e5 (by omega) ht | have ht_5 := s_up_at e5
            first | have hR_5 := s_up_off e5 (by omega) hR | have hR_5 := s_up_at e5
            first | have hri_5 := s_up_off e5 (by omega) hri | have hri_5 := s_up_at e5
            first | have hwy_5 := s_up_off e5 (by omega) hwy | have hwy_5 := s_up_at e5
            have hr_5 : ∀ r9, r9 < 15 → h5 (t + 2 + r9) = .inl (1, 101, .inr (.inl (τ.1 r9))) := fun r9 z9 => s_up_off e5 (by omega) (hr r9 z9)
            refine g_iinc (nI k + (-1)) dX7_countRow_92 (by rfl) rfl ?_
            refine g_goto (tgt := 3) dX7_countRow_95 (by decide) ?_
            exact g_lv (ih h5 (by omega) ⟨ht_5, hR_5, hr_5, hri_5, (by show _ = Sum.inl (0, 101, Sum.inl (t_wq τ.1 τ.2.2.1 r sz wt rm k)); rw [← t_wq_s (by omega) rfl]; exact hwy_5)⟩ (hoff.up e5 (by omega))) ⟨rfl, rfl, rfl, rfl, rfl, rfl, trivial⟩
          · have hv : (if r_wt (τ.1 r k) = r_wt (τ.1 (r + 1) k) then τ.2.2.1 k else 0) + (t_wy τ (t_wq τ.1 τ.2.2.1 r sz wt rm (k + 1))).2.2.1 (k - sz) = t_nw τ.1 τ.2.2.1 r sz wt k := by
              rw [t_nw, if_pos (show sz ≤ k ∧ r_wt (τ.1 r (k - sz)) + wt = r_wt (τ.1 (r + 1) k) from ⟨hle, c_66⟩)]
              rw [show (t_wy τ (t_wq τ.1 τ.2.2.1 r sz wt rm (k + 1))).2.2.1 (k - sz) = τ.2.2.1 (k - sz) from t_wq_at (by omega)]
            refine g_iload dX7_countRow_69 (by rfl) ?_
            refine g_aload_n dX7_countRow_71 rfl (by rfl) ?_
            refine g_getf dX7_countRow_72 fX7_20 (by exact ht) (by omega) (by rfl) ?_
            refine g_iload dX7_countRow_75 (by rfl) ?_
            refine g_iload_n dX7_countRow_77 rfl (by rfl) ?_
            refine g_isub dX7_countRow_78 ?_
            refine g_iald dX7_countRow_79 (by first | exact hri | exact hwy) (by omega) (by exact pk_sub hle) (by omega) (by omega) ?_
            refine g_iadd dX7_countRow_80 ?_
            refine g_istore dX7_countRow_81 (by decide) ?_
            refine g_aload_n dX7_countRow_83 rfl (by rfl) ?_
            refine g_getf dX7_countRow_84 fX7_20 (by exact ht) (by omega) (by rfl) ?_
            refine g_iload dX7_countRow_87 (by rfl) ?_
            refine g_iload dX7_countRow_89 (by rfl) ?_
            refine g_top (t_nw τ.1 τ.2.2.1 r sz wt k) hv ?_
            refine g_iast' dX7_countRow_91 (by first | exact hri | exact hwy) (by omega) (by rfl) (by omega) (by omega) (fun h6 e6 => ?_)
            first | have ht_6 := s_up_off e6 (by omega) ht | have ht_6 := s_up_at e6
            first | have hR_6 := s_up_off e6 (by omega) hR | have hR_6 := s_up_at e6
            first | have hri_6 := s_up_off e6 (by omega) hri | have hri_6 := s_up_at e6
            first | have hwy_6 := s_up_off e6 (by omega) hwy | have hwy_6 := s_up_at e6
            have hr_6 : ∀ r9, r9 < 15 → h6 (t + 2 + r9) = .inl (1, 101, .inr (.inl (τ.1 r9))) := fun r9 z9 => s_up_off e6 (by omega) (hr r9 z9)
            refine g_iinc (nI k + (-1)) dX7_countRow_92 (by rfl) rfl ?_
            refine g_goto (tgt := 3) dX7_countRow_95 (by decide) ?_
            exact g_lv (ih h6 (by omega) ⟨ht_6, hR_6, hr_6, hri_6, (by show _ = Sum.inl (0, 101, Sum.inl (t_wq τ.1 τ.2.2.1 r sz wt rm k)); rw [← t_wq_s (by omega) rfl]; exact hwy_6)⟩ (hoff.up e6 (by omega))) ⟨rfl, rfl, rfl, rfl, rfl, rfl, trivial⟩
  obtain ⟨ht, hR, hr, hri, hwy⟩ := hT
  refine s_Mt_of rfl (by decide) (by exact Nat.le_of_ble_eq_true rfl) ?_
  refine g_iload_n dX7_countRow_0 rfl (by rfl) ?_
  refine g_istore dX7_countRow_1 (by decide) ?_
  exact g_lv (loop (rm + 1) h (Nat.le_refl _) ⟨ht, hR, hr, hri, by show _ = Sum.inl (0, 101, Sum.inl (t_wq τ.1 τ.2.2.1 r sz wt rm (rm + 1))); rw [t_wq_0]; exact hwy⟩ s_off.rf) ⟨rfl, rfl, rfl, rfl, rfl, s_some (pk_m1 rm).symm, trivial⟩

theorem c_X7_countOptimal {h : s_H} {n t d cnt rm : Nat} {τ : s_Tb} {σ : s_D} (hT : s_tab h t τ) (hD : s_disk h d σ) (hn : t + 18 < n) (hnd : d + 4 < n) (hdt : d + 5 ≤ t ∨ t + 19 ≤ d) (hc : σ.2 0 = nI cnt) (hc14 : cnt ≤ 14) (hr14 : τ.2.2.2.1 ≤ 14) (hrm1 : d_room σ cnt = nI rm) (hrm : rm < 101) (hit : ∀ r, r < τ.2.2.2.1 → τ.2.1 r = nI (τ.2.1 r).toNatClampNeg ∧ (τ.2.1 r).toNatClampNeg < 14 ∧ ¬ σ.1 0 (τ.2.1 r).toNatClampNeg < 0) : s_Mt TX7_countOptimal 0 0 [.ref t, .ref d] h n (s_rp n (fun v9 h1 => v9 = some (.int (t_ow τ σ rm τ.2.2.2.1 rm)) ∧ s_tab h1 t (t_wy τ (t_ow τ σ rm τ.2.2.2.1)) ∧ s_off h h1 t (t + 19)) s_no) := by
  have loop : ∀ (k r : Nat) (h' : s_H), r + k = τ.2.2.2.1 → s_tab h' t (t_wy τ (t_ow τ σ rm r)) → s_disk h' d σ → s_off h h' t (t + 19) → s_G TX7_countOptimal (s_rp n (fun v9 h1 => v9 = some (.int (t_ow τ σ rm τ.2.2.2.1 rm)) ∧ s_tab h1 t (t_wy τ (t_ow τ σ rm τ.2.2.2.1)) ∧ s_off h h1 t (t + 19)) s_no) 27 (s_lvs [(0, .ref t), (1, .ref d), (2, .int (nI rm)), (3, .int (nI (r + 1)))]) [] h' n 0 0 := by
    intro k
    induction k with
    | zero =>
      intro r h' hk hT hD hoff
      obtain rfl : r = τ.2.2.2.1 := by omega
      obtain ⟨hd, q1, q2, q3, q4⟩ := hD
      obtain ⟨ht, hR, hr, hri, hwy⟩ := hT
      refine g_iload_n dX7_countOptimal_27 rfl (by rfl) ?_
      refine g_aload_n dX7_countOptimal_28 rfl (by rfl) ?_
      refine g_getf dX7_countOptimal_29 fX7_23 (by exact ht) (by omega) (by rfl) ?_
      refine g_icmp_gt (tgt := 72) dX7_countOptimal_32 (by decide) (fun _ => ?_) (fun c_32 => absurd (show nI τ.2.2.2.1 < nI (τ.2.2.2.1 + 1) from nI_lt (by omega) (by omega)) c_32)
      refine g_aload_n dX7_countOptimal_72 rfl (by rfl) ?_
      refine g_getf dX7_countOptimal_73 fX7_20 (by exact ht) (by omega) (by rfl) ?_
      refine g_iload_n dX7_countOptimal_76 rfl (by rfl) ?_
      refine g_iald dX7_countOptimal_77 (by first | exact hri | exact hwy | exact q1 | exact q2 | exact q3 | exact q4) (by omega) (by rfl) (by omega) (by omega) ?_
      refine g_ireturn dX7_countOptimal_78 rfl ?_
      exact ⟨rfl, rfl, ⟨ht, hR, hr, hri, hwy⟩, hoff⟩
    | succ k ih =>
      intro r h' hk hT hD hoff
      obtain ⟨hd, q1, q2, q3, q4⟩ := hD
      obtain ⟨ht, hR, hr, hri, hwy⟩ := hT
      obtain ⟨hj1, hj2, hj3⟩ := hit r (by omega)
      obtain ⟨z0, hz0, hsz0⟩ := nI_of hj3
      have hz1 : (σ.1 0 (τ.2.1 r).toNatClampNeg).toNatClampNeg = z0 := by rw [hsz0]; exact nI_clamp hz0
      have hsz9 : σ.1 0 (τ.2.1 r).toNatClampNeg = nI (σ.1 0 (τ.2.1 r).toNatClampNeg).toNatClampNeg := by rw [hz1]; exact hsz0
      refine g_iload_n dX7_countOptimal_27 rfl (by rfl) ?_
      refine g_aload_n dX7_countOptimal_28 rfl (by rfl) ?_
      refine g_getf dX7_countOptimal_29 fX7_23 (by exact ht) (by omega) (by rfl) ?_
      refine g_icmp_gt (tgt := 72) dX7_countOptimal_32 (by decide) (fun c_32 => absurd c_32 (show ¬ nI τ.2.2.2.1 < nI (r + 1) from nI_nlt (by omega) (by omega))) (fun _ => ?_)
      refine g_aload_n dX7_countOptimal_35 rfl (by rfl) ?_
      refine g_iload_n dX7_countOptimal_36 rfl (by rfl) ?_
      refine g_iload_n dX7_countOptimal_37 rfl (by rfl) ?_
      refine g_aload_n dX7_countOptimal_38 rfl (by rfl) ?_
      refine g_getf dX7_countOptimal_39 fX7_43 (by exact hd) (by omega) (by rfl) ?_
      refine g_aload_n dX7_countOptimal_42 rfl (by rfl) ?_
      refine g_getf dX7_countOptimal_43 fX7_16 (by exact ht) (by omega) (by rfl) ?_
      refine g_iload_n dX7_countOptimal_46 rfl (by rfl) ?_
      refine g_iconst 1 dX7_countOptimal_47 (by rfl) ?_
      refine g_isub dX7_countOptimal_48 ?_
      refine g_iald dX7_countOptimal_49 (by first | exact hri | exact hwy | exact q1 | exact q2 | exact q3 | exact q4) (by omega) (by exact nI_pred r) (by omega) (by omega) ?_
      refine g_iald dX7_countOptimal_50 (by first | exact hri | exact hwy | exact q1 | exact q2 | exact q3 | exact q4) (by omega) (by exact hj1) hj2 (by omega) ?_
      refine g_aload_n dX7_countOptimal_51 rfl (by rfl) ?_
      refine g_aload_n dX7_countOptimal_52 rfl (by rfl) ?_
      refine g_getf dX7_countOptimal_53 fX7_16 (by exact ht) (by omega) (by rfl) ?_
      refine g_iload_n dX7_countOptimal_56 rfl (by rfl) ?_
      refine g_iconst 1 dX7_countOptimal_57 (by rfl) ?_
      refine g_isub dX7_countOptimal_58 ?_
      refine g_iald dX7_countOptimal_59 (by first | exact hri | exact hwy | exact q1 | exact q2 | exact q3 | exact q4) (by omega) (by exact nI_pred r) (by omega) (by omega) ?_
      rw [show (t_wy τ (t_ow τ σ rm r)).2.1 r = nI (τ.2.1 r).toNatClampNeg from hj1]
      refine g_callV_e (c_X2_weightOf (i := (τ.2.1 r).toNatClampNeg) ⟨hd, q1, q2, q3, q4⟩ hnd hj2) dX7_countOptimal_60 (mX2_weightOf) rfl lX7_39 iX2_weightOf vX2_weightOf (by decide) (by omega) (by exact hd) rfl rfl rfl rfl (Nat.le_of_ble_eq_true rfl) ?_
      rw [show σ.1 0 (τ.2.1 r).toNatClampNeg = nI (σ.1 0 (τ.2.1 r).toNatClampNeg).toNatClampNeg from hsz9]
      refine g_callV_p (c_X7_countRow (r := r) (sz := (σ.1 0 (τ.2.1 r).toNatClampNeg).toNatClampNeg) (rm := rm) (τ := t_wy τ (t_ow τ σ rm r)) ⟨ht, hR, hr, hri, hwy⟩ hn (by omega) _ (by omega) (by omega)) dX7_countOptimal_63 (mX7_countRow) rfl lX7_67 iX7_countRow vX7_countRow (by decide) (by omega) (by exact ht) rfl rfl rfl rfl (Nat.le_of_ble_eq_true rfl) (fun v9 h9 q9 => ?_)
      obtain ⟨rfl, qtab, qoff⟩ := q9
      refine g_iinc (nI (r + 2)) dX7_countOptimal_66 (by rfl) (nI_inc (r + 1)) ?_
      refine g_goto (tgt := 27) dX7_countOptimal_69 (by decide) ?_
      have hd9 : s_disk h9 d σ := s_disk.off ⟨hd, q1, q2, q3, q4⟩ qoff (by omega)
      exact g_lv (ih (r + 1) h9 (by omega) qtab hd9 (hoff.trans qoff)) ⟨rfl, rfl, rfl, rfl, trivial⟩
  have loop1 : ∀ (k c : Nat) (h' : s_H), c + k = rm + 1 → s_tab h' t (t_wy τ (t_one τ.2.2.1 c)) → s_disk h' d σ → s_off h h' t (t + 19) → s_G TX7_countOptimal (s_rp n (fun v9 h1 => v9 = some (.int (t_ow τ σ rm τ.2.2.2.1 rm)) ∧ s_tab h1 t (t_wy τ (t_ow τ σ rm τ.2.2.2.1)) ∧ s_off h h1 t (t + 19)) s_no) 7 (s_lvs [(0, .ref t), (1, .ref d), (2, .int (nI rm)), (3, .int (nI c))]) [] h' n 0 0 := by
    intro k
    induction k with
    | zero =>
      intro c h' hk hT hD hoff
      obtain rfl : c = rm + 1 := by omega
      obtain ⟨hd, q1, q2, q3, q4⟩ := id hD
      obtain ⟨ht, hR, hr, hri, hwy⟩ := hT
      refine g_iload_n dX7_countOptimal_7 rfl (by rfl) ?_
      refine g_iload_n dX7_countOptimal_8 rfl (by rfl) ?_
      refine g_icmp_gt (tgt := 25) dX7_countOptimal_9 (by decide) (fun _ => ?_) (fun c_9 => absurd (nI_lt (by omega) (by omega)) c_9)
      refine g_iconst 1 dX7_countOptimal_25 (by rfl) ?_
      refine g_istore_n dX7_countOptimal_26 rfl (by decide) ?_
      exact g_lv (loop τ.2.2.2.1 0 h' (by omega) ⟨ht, hR, hr, hri, hwy⟩ hD hoff) ⟨rfl, rfl, rfl, rfl, trivial⟩
    | succ k ih1 =>
      intro c h' hk hT hD hoff
      obtain ⟨hd, q1, q2, q3, q4⟩ := hD
      obtain ⟨ht, hR, hr, hri, hwy⟩ := hT
      refine g_iload_n dX7_countOptimal_7 rfl (by rfl) ?_
      refine g_iload_n dX7_countOptimal_8 rfl (by rfl) ?_
      refine g_icmp_gt (tgt := 25) dX7_countOptimal_9 (by decide) (fun c_9 => absurd c_9 (nI_nlt (by omega) (by omega))) (fun _ => ?_)
      refine g_aload_n dX7_countOptimal_12 rfl (by rfl) ?_
      refine g_getf dX7_countOptimal_13 fX7_20 (by exact ht) (by omega) (by rfl) ?_
      refine g_iload_n dX7_countOptimal_16 rfl (by rfl) ?_
      refine g_iconst 1 dX7_countOptimal_17 (by rfl) ?_
      refine g_iast' dX7_countOptimal_18 (by first | exact hri | exact hwy | exact q1 | exact q2 | exact q3 | exact q4) (by omega) (by rfl) (by omega) (by omega) (fun h1 e1 => ?_)
      first | have ht_1 := s_up_off e1 (by omega) ht | have ht_1 := s_up_at e1
      first | have hR_1 := s_up_off e1 (by omega) hR | have hR_1 := s_up_at e1
      first | have hri_1 := s_up_off e1 (by omega) hri | have hri_1 := s_up_at e1
      first | have hwy_1 := s_up_off e1 (by omega) hwy | have hwy_1 := s_up_at e1
      first | have q1_1 := s_up_off e1 (by omega) q1 | have q1_1 := s_up_at e1
      first | have q2_1 := s_up_off e1 (by omega) q2 | have q2_1 := s_up_at e1
      first | have q3_1 := s_up_off e1 (by omega) q3 | have q3_1 := s_up_at e1
      first | have q4_1 := s_up_off e1 (by omega) q4 | have q4_1 := s_up_at e1
      first | have hd_1 := s_up_off e1 (by omega) hd | have hd_1 := s_up_at e1
      have hr_1 : ∀ r9, r9 < 15 → h1 (t + 2 + r9) = .inl (1, 101, .inr (.inl (τ.1 r9))) := fun r9 z9 => s_up_off e1 (by omega) (hr r9 z9)
      refine g_iinc (nI (c + 1)) dX7_countOptimal_19 (by rfl) (nI_inc c) ?_
      refine g_goto (tgt := 7) dX7_countOptimal_22 (by decide) ?_
      exact g_lv (ih1 (c + 1) h1 (by omega) ⟨ht_1, hR_1, hr_1, hri_1, (by show _ = Sum.inl (0, 101, Sum.inl (t_one τ.2.2.1 (c + 1))); rw [← t_one_s]; exact hwy_1)⟩ ⟨hd_1, q1_1, q2_1, q3_1, q4_1⟩ (hoff.up e1 (by omega))) ⟨rfl, rfl, rfl, rfl, trivial⟩
  obtain ⟨ht, hR, hr, hri, hwy⟩ := hT
  obtain ⟨hd, q1, q2, q3, q4⟩ := hD
  refine s_Mt_of rfl (by decide) (by exact Nat.le_of_ble_eq_true rfl) ?_
  refine g_aload_n dX7_countOptimal_0 rfl (by rfl) ?_
  refine g_callV_e (c_X2_room (cnt := cnt) ⟨hd, q1, q2, q3, q4⟩ hnd hc hc14) dX7_countOptimal_1 (mX2_room) rfl lX7_63 iX2_room vX2_room (by decide) (by omega) (by exact hd) rfl rfl rfl rfl (Nat.le_of_ble_eq_true rfl) ?_
  rw [hrm1]
  refine g_istore_n dX7_countOptimal_4 rfl (by decide) ?_
  refine g_iconst 0 dX7_countOptimal_5 (by rfl) ?_
  refine g_istore_n dX7_countOptimal_6 rfl (by decide) ?_
  exact g_lv (loop1 (rm + 1) 0 h (by omega) ⟨ht, hR, hr, hri, by show _ = Sum.inl (0, 101, Sum.inl (t_one τ.2.2.1 0)); rw [t_one_0]; exact hwy⟩ ⟨hd, q1, q2, q3, q4⟩ s_off.rf) ⟨rfl, rfl, rfl, rfl, trivial⟩

theorem c_X2_backUp {h : s_H} {n t d cnt cp : Nat} {τ : s_Tb} {σ : s_D} (hT : s_tab h t τ) (hD : s_disk h d σ) (hn : t + 18 < n) (hnd : d + 4 < n) (hdt : d + 5 ≤ t ∨ t + 19 ≤ d) (hc : σ.2 0 = nI cnt) (hc14 : cnt ≤ 14) (hcp : σ.2 1 = nI cp) (hcp1 : cp < 101) (hsz : ∀ i, i < cnt → ¬ σ.1 0 i < 0) (hz : ¬ nI cp - (t_build σ cp τ cnt).2.2.2.2.1 < 0 → (nI cp - (t_build σ cp τ cnt).2.2.2.2.1).toNatClampNeg < 101) : s_Mt TX2_backUp 0 0 [.ref d, .ref t] h n (s_rp n (fun v9 h1 => v9 = some (.int (d_tk σ τ cp cnt)) ∧ s_disk h1 d (d_bk σ (d_tk σ τ cp cnt) cnt) ∧ s_tab h1 t (t_build σ cp τ cnt) ∧ s_off2 h h1 d (d + 5) t (t + 19)) s_no) := by
  have loop : ∀ (k i : Nat) (h' : s_H), i + k = cnt → s_disk h' d (d_age (d_bk0 σ (d_tk σ τ cp cnt) cnt) (d_tk σ τ cp cnt) i) → s_tab h' t (t_build σ cp τ cnt) → s_off2 h h' d (d + 5) t (t + 19) → s_G TX2_backUp (s_rp n (fun v9 h1 => v9 = some (.int (d_tk σ τ cp cnt)) ∧ s_disk h1 d (d_bk σ (d_tk σ τ cp cnt) cnt) ∧ s_tab h1 t (t_build σ cp τ cnt) ∧ s_off2 h h1 d (d + 5) t (t + 19)) s_no) 61 (s_lvs [(0, .ref d), (1, .ref t), (2, .int (d_tk σ τ cp cnt)), (3, .int (nI i))]) [] h' n 0 0 := by
    intro k
    induction k with
    | zero =>
      intro i h' hk hD hT hoff
      obtain rfl : i = cnt := by omega
      obtain ⟨hd, q1, q2, q3, q4⟩ := id hD
      rw [show (d_age (d_bk0 σ (d_tk σ τ cp i) i) (d_tk σ τ cp i) i).2 0 = nI i from hc] at hd
      refine g_iload_n dX2_backUp_61 rfl (by rfl) ?_
      refine g_aload_n dX2_backUp_62 rfl (by rfl) ?_
      refine g_getf dX2_backUp_63 fX2_24 (by exact hd) (by omega) (by rfl) ?_
      refine g_icmp_ge (tgt := 114) dX2_backUp_66 (by decide) (fun _ => ?_) (fun c_66 => absurd (nI_le (by omega) (by omega)) c_66)
      refine g_iload_n dX2_backUp_114 rfl (by rfl) ?_
      refine g_ireturn dX2_backUp_115 rfl ?_
      exact ⟨rfl, rfl, hD, hT, hoff⟩
    | succ k ih =>
      intro i h' hk hD hT hoff
      obtain ⟨hd, q1, q2, q3, q4⟩ := hD
      have hd9 := hd
      rw [show (d_age (d_bk0 σ (d_tk σ τ cp cnt) cnt) (d_tk σ τ cp cnt) i).2 0 = nI cnt from hc] at hd
      refine g_iload_n dX2_backUp_61 rfl (by rfl) ?_
      refine g_aload_n dX2_backUp_62 rfl (by rfl) ?_
      refine g_getf dX2_backUp_63 fX2_24 (by exact hd) (by omega) (by rfl) ?_
      refine g_icmp_ge (tgt := 114) dX2_backUp_66 (by decide) (fun c_66 => absurd c_66 (nI_ge (by omega) (by omega))) (fun _ => ?_)
      refine g_iload_n dX2_backUp_69 rfl (by rfl) ?_
      refine g_iload_n dX2_backUp_70 rfl (by rfl) ?_
      refine g_callSN_e (c_X8_contains (d_tk σ τ cp cnt) (nI i)) dX2_backUp_71 (mX8_contains) rfl lX2_46 sX8_contains (by decide) rfl rfl (Nat.le_of_ble_eq_true rfl) ?_
      refine g_if_eq (tgt := 87) dX2_backUp_74 (by decide) (fun c_74 => ?_) (fun c_74 => ?_)
      · refine g_aload_n dX2_backUp_87 rfl (by rfl) ?_
        refine g_getf dX2_backUp_88 fX2_18 (by exact hd) (by omega) (by rfl) ?_
        refine g_iload_n dX2_backUp_91 rfl (by rfl) ?_
        refine g_iald dX2_backUp_92 (by first | exact q1 | exact q2 | exact q3 | exact q4) (by omega) (by rfl) (by omega) (by omega) ?_
        refine g_bipush 9 dX2_backUp_93 (by rfl) ?_
        refine g_icmp_ge (tgt := 108) dX2_backUp_95 (by decide) (fun c_95 => ?_) (fun c_95 => ?_)
        · refine g_iinc (nI (i + 1)) dX2_backUp_108 (by rfl) (nI_inc i) ?_
          refine g_goto (tgt := 61) dX2_backUp_111 (by decide) ?_
          exact g_lv (ih (i + 1) h' (by omega) ⟨hd9, q1, q2, (by show _ = Sum.inl (0, 14, Sum.inl (d_ag (σ.1 2) (d_tk σ τ cp cnt) (i + 1))); rw [d_ag_n (s_ite01.mp c_74) (fun z => absurd (Int32.not_le.mpr z) (fun y => y (by have x := c_95; rw [show (d_age (d_bk0 σ (d_tk σ τ cp cnt) cnt) (d_tk σ τ cp cnt) i).1 2 i = σ.1 2 i from d_ag_at] at x; exact x)))]; exact q3), q4⟩ hT hoff) ⟨rfl, rfl, rfl, rfl, trivial⟩
        · have hv : (d_age (d_bk0 σ (d_tk σ τ cp cnt) cnt) (d_tk σ τ cp cnt) i).1 2 i + 1 = (if s_bit (d_tk σ τ cp cnt) (nI i) = 0 then (if σ.1 2 i < 9 then σ.1 2 i + 1 else σ.1 2 i) else 0) := by
            have e9 : (d_age (d_bk0 σ (d_tk σ τ cp cnt) cnt) (d_tk σ τ cp cnt) i).1 2 i = σ.1 2 i := d_ag_at
            rw [e9] at c_95 ⊢
            rw [if_pos (s_ite01.mp c_74), if_pos (Int32.not_le.mp c_95)]
          refine g_aload_n dX2_backUp_98 rfl (by rfl) ?_
          refine g_getf dX2_backUp_99 fX2_18 (by exact hd) (by omega) (by rfl) ?_
          refine g_iload_n dX2_backUp_102 rfl (by rfl) ?_
          refine g_dup2 dX2_backUp_103 (by rfl) (by rfl) ?_
          refine g_iald dX2_backUp_104 (by first | exact q1 | exact q2 | exact q3 | exact q4) (by omega) (by rfl) (by omega) (by omega) ?_
          refine g_iconst 1 dX2_backUp_105 (by rfl) ?_
          refine g_iadd dX2_backUp_106 ?_
          refine g_top (if s_bit (d_tk σ τ cp cnt) (nI i) = 0 then (if σ.1 2 i < 9 then σ.1 2 i + 1 else σ.1 2 i) else 0) hv ?_
          refine g_iast' dX2_backUp_107 (by first | exact q1 | exact q2 | exact q3 | exact q4) (by omega) (by rfl) (by omega) (by omega) (fun h1 e1 => ?_)
          first | have hd_1 := s_up_off e1 (by omega) hd | have hd_1 := s_up_at e1
          first | have q1_1 := s_up_off e1 (by omega) q1 | have q1_1 := s_up_at e1
          first | have q2_1 := s_up_off e1 (by omega) q2 | have q2_1 := s_up_at e1
          first | have q3_1 := s_up_off e1 (by omega) q3 | have q3_1 := s_up_at e1
          first | have q4_1 := s_up_off e1 (by omega) q4 | have q4_1 := s_up_at e1
          refine g_iinc (nI (i + 1)) dX2_backUp_108 (by rfl) (nI_inc i) ?_
          refine g_goto (tgt := 61) dX2_backUp_111 (by decide) ?_
          exact g_lv (ih (i + 1) h1 (by omega) ⟨(by rw [← hc] at hd_1; exact hd_1), q1_1, q2_1, (by show _ = Sum.inl (0, 14, Sum.inl (d_ag (σ.1 2) (d_tk σ τ cp cnt) (i + 1))); rw [← d_ag_s rfl]; exact q3_1), q4_1⟩ (hT.off ((s_off.rf (a := d) (b := d + 5)).up e1 (by omega)) (by omega)) (hoff.trans (s_off2.of1 ((s_off.rf (a := d) (b := d + 5)).up e1 (by omega))))) ⟨rfl, rfl, rfl, rfl, trivial⟩
      · have hv : (0 : Int32) = (if s_bit (d_tk σ τ cp cnt) (nI i) = 0 then (if σ.1 2 i < 9 then σ.1 2 i + 1 else σ.1 2 i) else 0) := by rw [if_neg (fun z => c_74 (s_ite01.mpr z))]
        refine g_aload_n dX2_backUp_77 rfl (by rfl) ?_
        refine g_getf dX2_backUp_78 fX2_18 (by exact hd) (by omega) (by rfl) ?_
        refine g_iload_n dX2_backUp_81 rfl (by rfl) ?_
        refine g_iconst 0 dX2_backUp_82 (by rfl) ?_
        refine g_top (if s_bit (d_tk σ τ cp cnt) (nI i) = 0 then (if σ.1 2 i < 9 then σ.1 2 i + 1 else σ.1 2 i) else 0) hv ?_
        refine g_iast' dX2_backUp_83 (by first | exact q1 | exact q2 | exact q3 | exact q4) (by omega) (by rfl) (by omega) (by omega) (fun h2 e2 => ?_)
        first | have hd_2 := s_up_off e2 (by omega) hd | have hd_2 := s_up_at e2
        first | have q1_2 := s_up_off e2 (by omega) q1 | have q1_2 := s_up_at e2
        first | have q2_2 := s_up_off e2 (by omega) q2 | have q2_2 := s_up_at e2
        first | have q3_2 := s_up_off e2 (by omega) q3 | have q3_2 := s_up_at e2
        first | have q4_2 := s_up_off e2 (by omega) q4 | have q4_2 := s_up_at e2
        refine g_goto (tgt := 108) dX2_backUp_84 (by decide) ?_
        refine g_iinc (nI (i + 1)) dX2_backUp_108 (by rfl) (nI_inc i) ?_
        refine g_goto (tgt := 61) dX2_backUp_111 (by decide) ?_
        exact g_lv (ih (i + 1) h2 (by omega) ⟨(by rw [← hc] at hd_2; exact hd_2), q1_2, q2_2, (by show _ = Sum.inl (0, 14, Sum.inl (d_ag (σ.1 2) (d_tk σ τ cp cnt) (i + 1))); rw [← d_ag_s rfl]; exact q3_2), q4_2⟩ (hT.off ((s_off.rf (a := d) (b := d + 5)).up e2 (by omega)) (by omega)) (hoff.trans (s_off2.of1 ((s_off.rf (a := d) (b := d + 5)).up e2 (by omega))))) ⟨rfl, rfl, rfl, rfl, trivial⟩
  obtain ⟨hd, q1, q2, q3, q4⟩ := hD
  refine s_Mt_of rfl (by decide) (by exact Nat.le_of_ble_eq_true rfl) ?_
  refine g_aload_n dX2_backUp_0 rfl (by rfl) ?_
  refine g_aload_n dX2_backUp_1 rfl (by rfl) ?_
  refine g_aload_n dX2_backUp_2 rfl (by rfl) ?_
  refine g_getf dX2_backUp_3 fX2_28 (by exact hd) (by omega) (by rfl) ?_
  rw [hcp]
  refine g_callV_p (c_X7_build (cnt := cnt) (lc := cp) hT ⟨hd, q1, q2, q3, q4⟩ hn hnd hdt hc hc14 hsz hcp1) dX2_backUp_6 (mX7_build) rfl lX2_60 iX7_build vX7_build (by decide) (by omega) (by exact hT.1) rfl rfl rfl rfl (Nat.le_of_ble_eq_true rfl) (fun v9 h9 q9 => ?_)
  obtain ⟨rfl, qtab, qoff⟩ := q9
  obtain ⟨hd, q1, q2, q3, q4⟩ := s_disk.off (⟨hd, q1, q2, q3, q4⟩ : s_disk h d σ) qoff (by omega)
  have ht := qtab.1
  refine g_aload_n dX2_backUp_9 rfl (by rfl) ?_
  refine g_aload_n dX2_backUp_10 rfl (by rfl) ?_
  refine g_getf dX2_backUp_11 fX2_28 (by exact hd) (by omega) (by rfl) ?_
  rw [hcp]
  refine g_callV_e (c_X7_bestFor qtab hn (Nat.lt_of_le_of_lt (t_build_rows cnt) (by omega)) (nI cp) hz) dX2_backUp_14 (mX7_bestFor) rfl lX2_66 iX7_bestFor vX7_bestFor (by decide) (by omega) (by exact ht) rfl rfl rfl rfl (Nat.le_of_ble_eq_true rfl) ?_
  refine g_callSN_e (c_X8_rankSetOrEmpty _) dX2_backUp_17 (mX8_rankSetOrEmpty) rfl lX2_70 sX8_rankSetOrEmpty (by decide) rfl rfl (Nat.le_of_ble_eq_true rfl) ?_
  refine g_istore_n dX2_backUp_20 rfl (by decide) ?_
  refine g_aload_n dX2_backUp_21 rfl (by rfl) ?_
  refine g_dup dX2_backUp_22 (by rfl) ?_
  refine g_getf dX2_backUp_23 fX2_31 (by exact hd) (by omega) (by rfl) ?_
  refine g_iconst 1 dX2_backUp_26 (by rfl) ?_
  refine g_iadd dX2_backUp_27 ?_
  refine g_putf' dX2_backUp_28 pX2_31 (by exact hd) (by omega) (by exact Nat.le_of_ble_eq_true rfl) (by rfl) (by rfl) (fun h1 e1 => ?_)
  first | have hd_1 := s_up_off e1 (by omega) hd | have hd_1 := s_up_at e1
  first | have q1_1 := s_up_off e1 (by omega) q1 | have q1_1 := s_up_at e1
  first | have q2_1 := s_up_off e1 (by omega) q2 | have q2_1 := s_up_at e1
  first | have q3_1 := s_up_off e1 (by omega) q3 | have q3_1 := s_up_at e1
  first | have q4_1 := s_up_off e1 (by omega) q4 | have q4_1 := s_up_at e1
  first | have ht_1 := s_up_off e1 (by omega) ht | have ht_1 := s_up_at e1
  refine g_aload_n dX2_backUp_31 rfl (by rfl) ?_
  refine g_dup dX2_backUp_32 (by rfl) ?_
  refine g_getf dX2_backUp_33 fX2_34 (by exact hd_1) (by omega) (by rfl) ?_
  refine g_aload_n dX2_backUp_36 rfl (by rfl) ?_
  refine g_iload_n dX2_backUp_37 rfl (by rfl) ?_
  refine g_callV_e (c_X2_totalSize (cnt := cnt) (σ := (σ.1, d_mk (σ.2 0) (σ.2 1) (σ.2 2 + 1) (σ.2 3) (σ.2 4))) ⟨hd_1, q1_1, q2_1, q3_1, q4_1⟩ hnd hc hc14 _) dX2_backUp_38 (mX2_totalSize) rfl lX2_57 iX2_totalSize vX2_totalSize (by decide) (by omega) (by exact hd_1) rfl rfl rfl rfl (Nat.le_of_ble_eq_true rfl) ?_
  refine g_iadd dX2_backUp_41 ?_
  refine g_putf' dX2_backUp_42 pX2_34 (by exact hd_1) (by omega) (by exact Nat.le_of_ble_eq_true rfl) (by rfl) (by rfl) (fun h2 e2 => ?_)
  first | have hd_2 := s_up_off e2 (by omega) hd_1 | have hd_2 := s_up_at e2
  first | have q1_2 := s_up_off e2 (by omega) q1_1 | have q1_2 := s_up_at e2
  first | have q2_2 := s_up_off e2 (by omega) q2_1 | have q2_2 := s_up_at e2
  first | have q3_2 := s_up_off e2 (by omega) q3_1 | have q3_2 := s_up_at e2
  first | have q4_2 := s_up_off e2 (by omega) q4_1 | have q4_2 := s_up_at e2
  first | have ht_2 := s_up_off e2 (by omega) ht_1 | have ht_2 := s_up_at e2
  refine g_aload_n dX2_backUp_45 rfl (by rfl) ?_
  refine g_dup dX2_backUp_46 (by rfl) ?_
  refine g_getf dX2_backUp_47 fX2_37 (by exact hd_2) (by omega) (by rfl) ?_
  refine g_aload_n dX2_backUp_50 rfl (by rfl) ?_
  refine g_iload_n dX2_backUp_51 rfl (by rfl) ?_
  refine g_callV_e (c_X2_totalWeight (cnt := cnt) (σ := (σ.1, d_mk (σ.2 0) (σ.2 1) (σ.2 2 + 1) (σ.2 3 + d_tot (σ.1 0) (d_tk σ τ cp cnt) cnt) (σ.2 4))) ⟨hd_2, q1_2, q2_2, q3_2, q4_2⟩ hnd hc hc14 _) dX2_backUp_52 (mX2_totalWeight) rfl lX2_74 iX2_totalWeight vX2_totalWeight (by decide) (by omega) (by exact hd_2) rfl rfl rfl rfl (Nat.le_of_ble_eq_true rfl) ?_
  refine g_iadd dX2_backUp_55 ?_
  refine g_putf' dX2_backUp_56 pX2_37 (by exact hd_2) (by omega) (by exact Nat.le_of_ble_eq_true rfl) (by rfl) (by rfl) (fun h3 e3 => ?_)
  first | have hd_3 := s_up_off e3 (by omega) hd_2 | have hd_3 := s_up_at e3
  first | have q1_3 := s_up_off e3 (by omega) q1_2 | have q1_3 := s_up_at e3
  first | have q2_3 := s_up_off e3 (by omega) q2_2 | have q2_3 := s_up_at e3
  first | have q3_3 := s_up_off e3 (by omega) q3_2 | have q3_3 := s_up_at e3
  first | have q4_3 := s_up_off e3 (by omega) q4_2 | have q4_3 := s_up_at e3
  first | have ht_3 := s_up_off e3 (by omega) ht_2 | have ht_3 := s_up_at e3
  refine g_iconst 0 dX2_backUp_59 (by rfl) ?_
  refine g_istore_n dX2_backUp_60 rfl (by decide) ?_
  exact g_lv (loop cnt 0 h3 (by omega) ⟨hd_3, q1_3, q2_3, (by show _ = Sum.inl (0, 14, Sum.inl (d_ag (σ.1 2) (d_tk σ τ cp cnt) 0)); rw [d_ag_0]; exact q3_3), q4_3⟩ (qtab.off ((((s_off.rf (a := d) (b := d + 5)).up e1 (by omega)).up e2 (by omega)).up e3 (by omega)) (by omega)) ((s_off2.of2 qoff).trans (s_off2.of1 ((((s_off.rf (a := d) (b := d + 5)).up e1 (by omega)).up e2 (by omega)).up e3 (by omega))))) ⟨rfl, rfl, rfl, rfl, trivial⟩
