/-! THE MODEL: its table -/
def m_tf (F : Nat → Int × Nat × Nat) (a b c : Nat → Int32) : Prop := ∀ x, x ≤ 100 → a x = Int32.ofInt (F x).1 ∧ b x = nI (F x).2.1 ∧ c x = nI (F x).2.2
def m_tr (h : s_H) (m : Nat) (a b c : Nat → Int32) : Prop := h (m + 18) = .inl (0, 101, .inl a) ∧ h (m + 19) = .inl (0, 101, .inl b) ∧ h (m + 20) = .inl (0, 101, .inl c)
def m_tb (h : s_H) (m : Nat) (F : Nat → Int × Nat × Nat) : Prop := ∃ a b c, m_tr h m a b c ∧ m_tf F a b c
def m_ta (h : s_H) (m : Nat) : Prop := ∃ a b c, m_tr h m a b c
theorem m_tb.ta {h : s_H} {m : Nat} {F : Nat → Int × Nat × Nat} (q : m_tb h m F) : m_ta h m := q.elim fun a q => q.elim fun b q => q.elim fun c q => ⟨a, b, c, q.1⟩
theorem m_tr.off {h h1 : s_H} {m x y : Nat} {a b c : Nat → Int32} (q : m_tr h m a b c) (z : s_off h h1 x y) (hd : m + 21 ≤ x ∨ y ≤ m + 18) : m_tr h1 m a b c := ⟨(z _ (by omega)).trans q.1, (z _ (by omega)).trans q.2.1, (z _ (by omega)).trans q.2.2⟩
theorem m_ta.off {h h1 : s_H} {m x y : Nat} (q : m_ta h m) (z : s_off h h1 x y) (hd : m + 21 ≤ x ∨ y ≤ m + 18) : m_ta h1 m := q.elim fun a q => q.elim fun b q => q.elim fun c q => ⟨a, b, c, q.off z hd⟩
theorem m_tb.off {h h1 : s_H} {m x y : Nat} {F : Nat → Int × Nat × Nat} (q : m_tb h m F) (z : s_off h h1 x y) (hd : m + 21 ≤ x ∨ y ≤ m + 18) : m_tb h1 m F := q.elim fun a q => q.elim fun b q => q.elim fun c q => ⟨a, b, c, q.1.off z hd, q.2⟩
def m_mx (F G : Nat → Int × Nat × Nat) (s : Nat) : Nat → Int × Nat × Nat := fun x => if s < x then G x else F x
theorem m_tk {F G : Nat → Int × Nat × Nat} {a b c a' b' c' : Nat → Int32} {s : Nat} (hF : m_tf (m_mx F G (s + 1)) a b c) (h1 : a' (s + 1) = Int32.ofInt (G (s + 1)).1) (h2 : b' (s + 1) = nI (G (s + 1)).2.1) (h3 : c' (s + 1) = nI (G (s + 1)).2.2) (ho : ∀ x, x ≠ s + 1 → a' x = a x ∧ b' x = b x ∧ c' x = c x) : m_tf (m_mx F G s) a' b' c' := by
  intro x hx
  by_cases e : x = s + 1
  · subst e
    simp only [m_mx]
    rw [if_pos (by omega)]
    exact ⟨h1, h2, h3⟩
  · obtain ⟨o1, o2, o3⟩ := ho x e
    have := hF x hx
    simp only [m_mx] at this ⊢
    rw [o1, o2, o3]
    by_cases e2 : s + 1 < x
    · rw [if_pos e2] at this
      rw [if_pos (by omega)]
      exact this
    · rw [if_neg e2] at this
      rw [if_neg (by omega)]
      exact this
theorem kI_ti {z : Int} (h1 : -1 ≤ z) (h2 : z ≤ 1000000) : (Int32.ofInt z).toInt = z := Int32.toInt_ofInt_of_le (by omega) (by omega)
theorem kI_nI (k : Nat) : Int32.ofInt (k : Int) = nI k := rfl
theorem kI_add (z : Int) (k : Nat) : Int32.ofInt z + nI k = Int32.ofInt (z + k) := by rw [← kI_nI, Int32.ofInt_add]
theorem kI_inj {y z : Int} (h1 : -1 ≤ y) (h2 : y ≤ 1000000) (h3 : -1 ≤ z) (h4 : z ≤ 1000000) (h : Int32.ofInt y = Int32.ofInt z) : y = z := by
  have := congrArg Int32.toInt h
  rwa [kI_ti h1 h2, kI_ti h3 h4] at this
theorem kI_le {y z : Int} (h1 : -1 ≤ y) (h2 : y ≤ 1000000) (h3 : -1 ≤ z) (h4 : z ≤ 1000000) : Int32.ofInt y ≤ Int32.ofInt z ↔ y ≤ z := by rw [Int32.le_iff_toInt_le, kI_ti h1 h2, kI_ti h3 h4]
theorem nI_lei {a b : Nat} (ha : a < 2147483648) (hb : b < 2147483648) : nI a ≤ nI b ↔ a ≤ b := by
  rw [Int32.le_iff_toInt_le, nI_ti ha, nI_ti hb]
  omega
/-- what an item does at a size -/
theorem m_tkc {σ : s_D} {cnt cp i s : Nat} (ok : d_ok σ cnt cp) (hi : i < cnt) (hf : σ.1 3 i = 0) (hs : k_s σ i ≤ s) {A1 B1 C1 A0 B0 C0 : Int32}
    (e1 : A1 = Int32.ofInt (k_mt σ i (s - k_s σ i)).1 ∧ B1 = nI (k_mt σ i (s - k_s σ i)).2.1 ∧ C1 = nI (k_mt σ i (s - k_s σ i)).2.2) (e0 : A0 = Int32.ofInt (k_mt σ i s).1 ∧ B0 = nI (k_mt σ i s).2.1 ∧ C0 = nI (k_mt σ i s).2.2) :
    (A1 = -1 → k_mt σ (i + 1) s = k_mt σ i s) ∧ (¬ A1 = -1 → ¬ A1 + d_wt σ i ≤ A0 → A1 + d_wt σ i = Int32.ofInt (k_mt σ (i + 1) s).1 ∧ (B1 ||| ((1 : Int32) <<< (nI i &&& 31))) = nI (k_mt σ (i + 1) s).2.1 ∧ C1 = nI (k_mt σ (i + 1) s).2.2) ∧
    (¬ A1 = -1 → A1 + d_wt σ i ≤ A0 → ¬ A1 + d_wt σ i = A0 → k_mt σ (i + 1) s = k_mt σ i s) ∧
    (¬ A1 = -1 → A1 + d_wt σ i = A0 → A0 = Int32.ofInt (k_mt σ (i + 1) s).1 ∧ (B0 ≤ (B1 ||| ((1 : Int32) <<< (nI i &&& 31))) → B0 = nI (k_mt σ (i + 1) s).2.1) ∧ (¬ B0 ≤ (B1 ||| ((1 : Int32) <<< (nI i &&& 31))) → (B1 ||| ((1 : Int32) <<< (nI i &&& 31))) = nI (k_mt σ (i + 1) s).2.1) ∧ C0 + C1 = nI (k_mt σ (i + 1) s).2.2) := by
  obtain ⟨rfl, rfl, rfl⟩ := e1
  obtain ⟨rfl, rfl, rfl⟩ := e0
  have h14 := ok.2.1
  obtain ⟨-, -, -, hw, hw2⟩ := k_it ok hi
  have b1 := k_mtb ok i (by omega) (s - k_s σ i)
  have b0 := k_mtb ok i (by omega) s
  have i1 := (ka_mt_inv (fr := k_f σ) (w := k_w σ) (s := k_s σ) i (s - k_s σ i)).2
  have i0 := (ka_mt_inv (fr := k_f σ) (w := k_w σ) (s := k_s σ) i s).2
  have hp : ka_p2 i ≤ 8192 := by
    have := ka_p2_le (show i ≤ 13 by omega)
    have e : ka_p2 13 = 8192 := by decide
    omega
  have hff : k_f σ i = true := decide_eq_true hf
  have hset : (nI (k_mt σ i (s - k_s σ i)).2.1 ||| ((1 : Int32) <<< (nI i &&& 31))) = nI ((k_mt σ i (s - k_s σ i)).2.1 + ka_p2 i) := b_or i1 (by omega)
  rw [hw, hset, kI_add]
  have ms := ka_mt_s (fr := k_f σ) (w := k_w σ) (s := k_s σ) i s
  have em : (Int32.ofInt (k_mt σ i (s - k_s σ i)).1 = -1) ↔ (k_mt σ i (s - k_s σ i)).1 = -1 := ⟨fun z => kI_inj (by omega) (by omega) (by omega) (by omega) (show _ = Int32.ofInt (-1) from z), fun z => by rw [z]; rfl⟩
  have ele : Int32.ofInt ((k_mt σ i (s - k_s σ i)).1 + (k_w σ i : Int)) ≤ Int32.ofInt (k_mt σ i s).1 ↔ (k_mt σ i (s - k_s σ i)).1 + (k_w σ i : Int) ≤ (k_mt σ i s).1 := kI_le (by omega) (by omega) (by omega) (by omega)
  have eeq : Int32.ofInt ((k_mt σ i (s - k_s σ i)).1 + (k_w σ i : Int)) = Int32.ofInt (k_mt σ i s).1 ↔ (k_mt σ i (s - k_s σ i)).1 + (k_w σ i : Int) = (k_mt σ i s).1 := ⟨kI_inj (by omega) (by omega) (by omega) (by omega), fun z => by rw [z]⟩
  rw [em, ele, eeq]
  change k_mt σ (i + 1) s = _ at ms
  unfold k_mt at *
  refine ⟨fun h => ?_, fun h h2 => ?_, fun h h2 h3 => ?_, fun h h2 => ?_⟩
  · rw [ms, if_neg (fun z => z.2.2 h)]
  · rw [ms, if_pos ⟨hff, hs, h⟩, if_pos (by omega)]
    exact ⟨rfl, rfl, rfl⟩
  · rw [ms, if_pos ⟨hff, hs, h⟩, if_neg (by omega), if_neg (by omega)]
  · rw [ms, if_pos ⟨hff, hs, h⟩, if_neg (by omega), if_pos (by omega)]
    dsimp only
    rw [nI_add]
    refine ⟨rfl, fun h3 => ?_, fun h3 => ?_, rfl⟩
    · rw [nI_lei (by omega) (by omega)] at h3
      rw [if_neg (by omega)]
    · rw [nI_lei (by omega) (by omega)] at h3
      rw [if_pos (by omega)]
theorem m_mt_nf {σ : s_D} {i j : Nat} (hij : i ≤ j) (h : u_nf σ i = u_nf σ j) : k_mt σ i = k_mt σ j := by
  induction j with
  | zero =>
    obtain rfl : i = 0 := by omega
    rfl
  | succ j ih =>
    by_cases e : i = j + 1
    · rw [e]
    · have h1 := u_nf_mono (σ := σ) (j := i) j (by omega)
      have h2 := u_nf_mono (σ := σ) (j := j) (j + 1) (by omega)
      rw [ih (by omega) (by omega)]
      have hne : ¬ σ.1 3 j = 0 := fun z => by
        have : u_nf σ (j + 1) = u_nf σ j + 1 := by simp only [u_nf, if_pos z]
        omega
      funext x
      unfold k_mt
      rw [ka_mt_s, if_neg (fun z => hne (of_decide_eq_true z.1))]
theorem u_at_full {σ : s_D} {r : Nat} : ∀ i, u_nf σ i ≤ r → u_at σ r i = i
  | 0, _ => rfl
  | i + 1, h => by unfold u_at; rw [if_pos h]
theorem m_at_mt {σ : s_D} {cnt i r : Nat} (hi : i ≤ cnt) (h : u_nf σ i = r) : k_mt σ i = k_mt σ (u_at σ r cnt) := by
  have h2 := u_nf_mono (σ := σ) (j := i) cnt hi
  obtain ⟨h3, h4⟩ := u_at_ok (σ := σ) (r := r) cnt (by omega)
  rcases Nat.le_total i (u_at σ r cnt) with q | q
  · exact m_mt_nf q (by omega)
  · exact (m_mt_nf q (by omega)).symm

theorem c_X9_clearTable {h : s_H} {n m : Nat} {I w : Nat → Int32} (hM : m_at h m I w) (hn : m + 21 ≤ n) (hT : m_ta h m) (σ : s_D) : s_Mt TX9_clearTable 0 0 [.ref m] h n (s_rp n (fun v9 h1 => v9 = none ∧ m_tb h1 m (k_mt σ 0) ∧ s_off h h1 (m + 18) (m + 21)) s_no) := by
  obtain ⟨a, b, c, ha, hb, hc⟩ := hT
  have hm := hM.1
  have loop : ∀ (r k : Nat) (h' : s_H) (a b c : Nat → Int32), k + r = 101 → h' m = .inr (7, m_fs m I) → h' (m + 18) = .inl (0, 101, .inl a) → h' (m + 19) = .inl (0, 101, .inl b) → h' (m + 20) = .inl (0, 101, .inl c) → (∀ x, x < k → a x = -1 ∧ b x = 0 ∧ c x = 0) → s_off h h' (m + 18) (m + 21) → s_G TX9_clearTable (s_rp n (fun v9 h1 => v9 = none ∧ m_tb h1 m (k_mt σ 0) ∧ s_off h h1 (m + 18) (m + 21)) s_no) 2 (s_lvs [(0, .ref m), (1, .int (nI k))]) [] h' n 0 0 := by
    intro r
    induction r with
    | zero =>
      intro k h' a b c hk hm ha hb hc hz hoff
      obtain rfl : k = 101 := by omega
      refine g_iload_n dX9_clearTable_2 rfl (by rfl) ?_
      refine g_bipush 100 dX9_clearTable_3 (by rfl) ?_
      refine g_icmp_gt (tgt := 35) dX9_clearTable_5 (by decide) (fun _ => ?_) (fun c_5 => absurd (show (100 : Int32) < nI 101 by decide) c_5)
      refine g_aload_n dX9_clearTable_35 rfl (by rfl) ?_
      refine g_getf dX9_clearTable_36 fX9_34 (by exact hm) (by omega) (by rfl) ?_
      refine g_iconst 0 dX9_clearTable_39 (by rfl) ?_
      refine g_iconst 0 dX9_clearTable_40 (by rfl) ?_
      refine g_iast' dX9_clearTable_41 (by exact ha) (by omega) (show (0 : Int32) = nI 0 from rfl) (by omega) (by omega) (fun h1 e1 => ?_)
      first | have hm_1 := s_up_off e1 (by omega) hm | have hm_1 := s_up_at e1
      first | have ha_1 := s_up_off e1 (by omega) ha | have ha_1 := s_up_at e1
      first | have hb_1 := s_up_off e1 (by omega) hb | have hb_1 := s_up_at e1
      first | have hc_1 := s_up_off e1 (by omega) hc | have hc_1 := s_up_at e1
      first | have hw_1 := s_up_off e1 (by omega) hw | have hw_1 := s_up_at e1
      refine g_aload_n dX9_clearTable_42 rfl (by rfl) ?_
      refine g_getf dX9_clearTable_43 fX9_40 (by exact hm_1) (by omega) (by rfl) ?_
      refine g_iconst 0 dX9_clearTable_46 (by rfl) ?_
      refine g_iconst 1 dX9_clearTable_47 (by rfl) ?_
      refine g_iast' dX9_clearTable_48 (by exact hc_1) (by omega) (show (0 : Int32) = nI 0 from rfl) (by omega) (by omega) (fun h2 e2 => ?_)
      first | have hm_2 := s_up_off e2 (by omega) hm_1 | have hm_2 := s_up_at e2
      first | have ha_2 := s_up_off e2 (by omega) ha_1 | have ha_2 := s_up_at e2
      first | have hb_2 := s_up_off e2 (by omega) hb_1 | have hb_2 := s_up_at e2
      first | have hc_2 := s_up_off e2 (by omega) hc_1 | have hc_2 := s_up_at e2
      first | have hw_2 := s_up_off e2 (by omega) hw_1 | have hw_2 := s_up_at e2
      refine g_vreturn dX9_clearTable_49 rfl ?_
      refine ⟨rfl, rfl, ⟨_, _, _, ⟨ha_2, hb_2, hc_2⟩, fun x hx => ?_⟩, (((hoff).up e1 (by omega)).up e2 (by omega))⟩
      obtain ⟨z1, z2, z3⟩ := hz x (by omega)
      unfold k_mt ka_mt
      by_cases ex : x = 0
      · subst ex
        exact ⟨by simp only [upd, if_true]; rfl, by rw [if_pos rfl, z2]; rfl, by simp only [upd, if_true]; rfl⟩
      · rw [if_neg ex]
        exact ⟨by simp only [upd]; rw [if_neg ex, z1]; rfl, by rw [z2]; rfl, by simp only [upd]; rw [if_neg ex, z3]; rfl⟩
    | succ r ih =>
      intro k h' a b c hk hm ha hb hc hz hoff
      refine g_iload_n dX9_clearTable_2 rfl (by rfl) ?_
      refine g_bipush 100 dX9_clearTable_3 (by rfl) ?_
      refine g_icmp_gt (tgt := 35) dX9_clearTable_5 (by decide) (fun c_5 => absurd c_5 (show ¬ nI 100 < nI k from fun z => by rw [Int32.lt_iff_toInt_lt, nI_ti (by omega), nI_ti (by omega)] at z; omega)) (fun _ => ?_)
      refine g_aload_n dX9_clearTable_8 rfl (by rfl) ?_
      refine g_getf dX9_clearTable_9 fX9_34 (by exact hm) (by omega) (by rfl) ?_
      refine g_iload_n dX9_clearTable_12 rfl (by rfl) ?_
      refine g_iconst (-1) dX9_clearTable_13 (by rfl) ?_
      refine g_iast' dX9_clearTable_14 (by exact ha) (by omega) (by rfl) (by omega) (by omega) (fun h1 e1 => ?_)
      first | have hm_1 := s_up_off e1 (by omega) hm | have hm_1 := s_up_at e1
      first | have ha_1 := s_up_off e1 (by omega) ha | have ha_1 := s_up_at e1
      first | have hb_1 := s_up_off e1 (by omega) hb | have hb_1 := s_up_at e1
      first | have hc_1 := s_up_off e1 (by omega) hc | have hc_1 := s_up_at e1
      first | have hw_1 := s_up_off e1 (by omega) hw | have hw_1 := s_up_at e1
      refine g_aload_n dX9_clearTable_15 rfl (by rfl) ?_
      refine g_getf dX9_clearTable_16 fX9_37 (by exact hm_1) (by omega) (by rfl) ?_
      refine g_iload_n dX9_clearTable_19 rfl (by rfl) ?_
      refine g_iconst 0 dX9_clearTable_20 (by rfl) ?_
      refine g_iast' dX9_clearTable_21 (by exact hb_1) (by omega) (by rfl) (by omega) (by omega) (fun h2 e2 => ?_)
      first | have hm_2 := s_up_off e2 (by omega) hm_1 | have hm_2 := s_up_at e2
      first | have ha_2 := s_up_off e2 (by omega) ha_1 | have ha_2 := s_up_at e2
      first | have hb_2 := s_up_off e2 (by omega) hb_1 | have hb_2 := s_up_at e2
      first | have hc_2 := s_up_off e2 (by omega) hc_1 | have hc_2 := s_up_at e2
      first | have hw_2 := s_up_off e2 (by omega) hw_1 | have hw_2 := s_up_at e2
      refine g_aload_n dX9_clearTable_22 rfl (by rfl) ?_
      refine g_getf dX9_clearTable_23 fX9_40 (by exact hm_2) (by omega) (by rfl) ?_
      refine g_iload_n dX9_clearTable_26 rfl (by rfl) ?_
      refine g_iconst 0 dX9_clearTable_27 (by rfl) ?_
      refine g_iast' dX9_clearTable_28 (by exact hc_2) (by omega) (by rfl) (by omega) (by omega) (fun h3 e3 => ?_)
      first | have hm_3 := s_up_off e3 (by omega) hm_2 | have hm_3 := s_up_at e3
      first | have ha_3 := s_up_off e3 (by omega) ha_2 | have ha_3 := s_up_at e3
      first | have hb_3 := s_up_off e3 (by omega) hb_2 | have hb_3 := s_up_at e3
      first | have hc_3 := s_up_off e3 (by omega) hc_2 | have hc_3 := s_up_at e3
      first | have hw_3 := s_up_off e3 (by omega) hw_2 | have hw_3 := s_up_at e3
      refine g_iinc (nI (k + 1)) dX9_clearTable_29 (by rfl) (nI_inc k) ?_
      refine g_goto (tgt := 2) dX9_clearTable_32 (by decide) ?_
      exact g_lv (ih (k + 1) h3 _ _ _ (by omega) hm_3 ha_3 hb_3 hc_3 (fun x hx => by
        by_cases ex : x = k
        · subst ex; exact ⟨if_pos rfl, if_pos rfl, if_pos rfl⟩
        · obtain ⟨z1, z2, z3⟩ := hz x (by omega)
          exact ⟨(if_neg ex).trans z1, (if_neg ex).trans z2, (if_neg ex).trans z3⟩) ((((hoff).up e1 (by omega)).up e2 (by omega)).up e3 (by omega))) ⟨rfl, rfl, trivial⟩
  refine s_Mt_of rfl (by decide) (by exact Nat.le_of_ble_eq_true rfl) ?_
  refine g_iconst 0 dX9_clearTable_0 (by rfl) ?_
  refine g_istore_n dX9_clearTable_1 rfl (by decide) ?_
  exact g_lv (loop 101 0 h a b c (by omega) hm ha hb hc (fun x hx => absurd hx (Nat.not_lt_zero x)) s_off.rf) ⟨rfl, rfl, trivial⟩

theorem c_X9_take {h : s_H} {n m : Nat} {I w : Nat → Int32} (hM : m_at h m I w) (hn : m + 21 ≤ n) {cnt cp : Nat} (ok : d_ok (m_D w) cnt cp) {i : Nat} (hi : i < cnt) (hf : (m_D w).1 3 i = 0) (hT : m_tb h m (k_mt (m_D w) i)) : s_Mt TX9_take 0 0 [.ref m, .int (nI i)] h n (s_rp n (fun v9 h1 => v9 = none ∧ m_tb h1 m (k_mt (m_D w) (i + 1)) ∧ s_off h h1 (m + 18) (m + 21)) s_no) := by
  have hm := hM.1
  have hw := hM.2
  obtain ⟨a, b, c, ⟨ha, hb, hc⟩, hF0⟩ := hT
  have hc14 := ok.2.1
  obtain ⟨hs1, hs2, hs3, -, -⟩ := k_it ok hi
  have loop : ∀ (r s : Nat) (h' : s_H) (a b c : Nat → Int32), s + 1 = k_s (m_D w) i + r → s ≤ 100 → h' m = .inr (7, m_fs m I) → h' (m + 1) = .inl (0, 61, .inl w) → h' (m + 18) = .inl (0, 101, .inl a) → h' (m + 19) = .inl (0, 101, .inl b) → h' (m + 20) = .inl (0, 101, .inl c) → m_tf (m_mx (k_mt (m_D w) i) (k_mt (m_D w) (i + 1)) s) a b c → s_off h h' (m + 18) (m + 21) → s_G TX9_take (s_rp n (fun v9 h1 => v9 = none ∧ m_tb h1 m (k_mt (m_D w) (i + 1)) ∧ s_off h h1 (m + 18) (m + 21)) s_no) 10 (s_lvs [(0, .ref m), (1, .int (nI i)), (2, .int (nI (k_s (m_D w) i))), (3, .int (nI s))]) [] h' n 0 0 := by
    intro r
    induction r with
    | zero =>
      intro s h' a b c hs hs100 hm hw ha hb hc hF hoff
      refine g_iload_n dX9_take_10 rfl (by rfl) ?_
      refine g_iload_n dX9_take_11 rfl (by rfl) ?_
      refine g_icmp_lt (tgt := 166) dX9_take_12 (by decide) (fun _ => ?_) (fun c_12 => absurd (show nI s < nI (k_s (m_D w) i) from nI_lt (by omega) (by omega)) c_12)
      refine g_vreturn dX9_take_166 rfl ?_
      refine ⟨rfl, rfl, ⟨a, b, c, ⟨ha, hb, hc⟩, fun x hx => ?_⟩, hoff⟩
      have := hF x hx
      simp only [m_mx] at this
      by_cases e : s < x
      · rw [if_pos e] at this; exact this
      · rw [if_neg e] at this
        have e2 : k_mt (m_D w) (i + 1) x = k_mt (m_D w) i x := by unfold k_mt; rw [ka_mt_s, if_neg (by omega)]
        rw [e2]; exact this
    | succ r ih =>
      intro s' h' a b c hs hs100 hm hw ha hb hc hF hoff
      obtain ⟨s, rfl⟩ : ∃ s, s' = s + 1 := ⟨s' - 1, by omega⟩
      have e0 : a (s + 1) = Int32.ofInt (k_mt (m_D w) i (s + 1)).1 ∧ b (s + 1) = nI (k_mt (m_D w) i (s + 1)).2.1 ∧ c (s + 1) = nI (k_mt (m_D w) i (s + 1)).2.2 := by
        have := hF (s + 1) hs100
        simp only [m_mx] at this
        rw [if_neg (by omega)] at this
        exact this
      have e1 : a (s + 1 - k_s (m_D w) i) = Int32.ofInt (k_mt (m_D w) i (s + 1 - k_s (m_D w) i)).1 ∧ b (s + 1 - k_s (m_D w) i) = nI (k_mt (m_D w) i (s + 1 - k_s (m_D w) i)).2.1 ∧ c (s + 1 - k_s (m_D w) i) = nI (k_mt (m_D w) i (s + 1 - k_s (m_D w) i)).2.2 := by
        have := hF (s + 1 - k_s (m_D w) i) (by omega)
        simp only [m_mx] at this
        rw [if_neg (by omega)] at this
        exact this
      obtain ⟨K1, K2, K3, K4⟩ := m_tkc ok hi hf (show k_s (m_D w) i ≤ s + 1 by omega) e1 e0
      clear e1
      refine g_iload_n dX9_take_10 rfl (by rfl) ?_
      refine g_iload_n dX9_take_11 rfl (by rfl) ?_
      refine g_icmp_lt (tgt := 166) dX9_take_12 (by decide) (fun c_12 => absurd c_12 (show ¬ nI (s + 1) < nI (k_s (m_D w) i) from fun z => by rw [Int32.lt_iff_toInt_lt, nI_ti (by omega), nI_ti (by omega)] at z; omega)) (fun _ => ?_)
      refine g_aload_n dX9_take_15 rfl (by rfl) ?_
      refine g_getf dX9_take_16 fX9_34 (by exact hm) (by omega) (by rfl) ?_
      refine g_iload_n dX9_take_19 rfl (by rfl) ?_
      refine g_iload_n dX9_take_20 rfl (by rfl) ?_
      refine g_isub dX9_take_21 ?_
      refine g_iald dX9_take_22 (by exact ha) (by omega) (nI_sble (by omega)) (by omega) (by omega) ?_
      refine g_iconst (-1) dX9_take_23 (by rfl) ?_
      refine g_icmp_ne (tgt := 30) dX9_take_24 (by decide) (fun c_24 => ?_) (fun c_24 => ?_)
      · refine g_aload_n dX9_take_30 rfl (by rfl) ?_
        refine g_getf dX9_take_31 fX9_34 (by exact hm) (by omega) (by rfl) ?_
        refine g_iload_n dX9_take_34 rfl (by rfl) ?_
        refine g_iload_n dX9_take_35 rfl (by rfl) ?_
        refine g_isub dX9_take_36 ?_
        refine g_iald dX9_take_37 (by exact ha) (by omega) (nI_sble (by omega)) (by omega) (by omega) ?_
        refine g_aload_n dX9_take_38 rfl (by rfl) ?_
        refine g_iload_n dX9_take_39 rfl (by rfl) ?_
        refine g_callV_e (c_X9_weightOf ⟨hm, hw⟩ hn i (by omega)) dX9_take_40 (mX9_weightOf) rfl lX9_83 iX9_weightOf vX9_weightOf (by decide) (by omega) (by exact hm) rfl rfl rfl rfl (Nat.le_of_ble_eq_true rfl) ?_
        refine g_iadd dX9_take_43 ?_
        refine g_istore dX9_take_44 (by decide) ?_
        refine g_aload_n dX9_take_46 rfl (by rfl) ?_
        refine g_getf dX9_take_47 fX9_37 (by exact hm) (by omega) (by rfl) ?_
        refine g_iload_n dX9_take_50 rfl (by rfl) ?_
        refine g_iload_n dX9_take_51 rfl (by rfl) ?_
        refine g_isub dX9_take_52 ?_
        refine g_iald dX9_take_53 (by exact hb) (by omega) (nI_sble (by omega)) (by omega) (by omega) ?_
        refine g_iconst 1 dX9_take_54 (by rfl) ?_
        refine g_iload_n dX9_take_55 rfl (by rfl) ?_
        refine g_ishl dX9_take_56 ?_
        refine g_ior dX9_take_57 ?_
        refine g_istore dX9_take_58 (by decide) ?_
        refine g_iload dX9_take_60 (by rfl) ?_
        refine g_aload_n dX9_take_62 rfl (by rfl) ?_
        refine g_getf dX9_take_63 fX9_34 (by exact hm) (by omega) (by rfl) ?_
        refine g_iload_n dX9_take_66 rfl (by rfl) ?_
        refine g_iald dX9_take_67 (by exact ha) (by omega) (by rfl) (by omega) (by omega) ?_
        refine g_icmp_le (tgt := 104) dX9_take_68 (by decide) (fun c_68 => ?_) (fun c_68 => ?_)
        · refine g_iload dX9_take_104 (by rfl) ?_
          refine g_aload_n dX9_take_106 rfl (by rfl) ?_
          refine g_getf dX9_take_107 fX9_34 (by exact hm) (by omega) (by rfl) ?_
          refine g_iload_n dX9_take_110 rfl (by rfl) ?_
          refine g_iald dX9_take_111 (by exact ha) (by omega) (by rfl) (by omega) (by omega) ?_
          refine g_icmp_ne (tgt := 160) dX9_take_112 (by decide) (fun c_112 => ?_) (fun c_112 => ?_)
          · have z1 := K3 c_24 c_68 c_112
            have hend : m_tf (m_mx (k_mt (m_D w) i) (k_mt (m_D w) (i + 1)) s) a b c := m_tk hF (by rw [z1]; exact e0.1) (by rw [z1]; exact e0.2.1) (by rw [z1]; exact e0.2.2) (fun x _ => ⟨rfl, rfl, rfl⟩)
            refine g_iinc (nI s) dX9_take_160 (by rfl) (nI_dec s) ?_
            refine g_goto (tgt := 10) dX9_take_163 (by decide) ?_
            exact g_lv (ih s h' _ _ _ (by omega) (by omega) hm hw ha hb hc hend (hoff)) ⟨rfl, rfl, rfl, rfl, trivial⟩
          · obtain ⟨z1, z2a, z2b, z3⟩ := K4 c_24 c_112
            refine g_aload_n dX9_take_115 rfl (by rfl) ?_
            refine g_getf dX9_take_116 fX9_37 (by exact hm) (by omega) (by rfl) ?_
            refine g_iload_n dX9_take_119 rfl (by rfl) ?_
            refine g_iload dX9_take_120 (by rfl) ?_
            refine g_aload_n dX9_take_122 rfl (by rfl) ?_
            refine g_getf dX9_take_123 fX9_37 (by exact hm) (by omega) (by rfl) ?_
            refine g_iload_n dX9_take_126 rfl (by rfl) ?_
            refine g_iald dX9_take_127 (by exact hb) (by omega) (by rfl) (by omega) (by omega) ?_
            refine g_icmp_ge (tgt := 136) dX9_take_128 (by decide) (fun c_128 => ?_) (fun c_128 => ?_)
            · have z2 := z2a c_128
              refine g_aload_n dX9_take_136 rfl (by rfl) ?_
              refine g_getf dX9_take_137 fX9_37 (by exact hm) (by omega) (by rfl) ?_
              refine g_iload_n dX9_take_140 rfl (by rfl) ?_
              refine g_iald dX9_take_141 (by exact hb) (by omega) (by rfl) (by omega) (by omega) ?_
              refine g_iast' dX9_take_142 (by exact hb) (by omega) (by rfl) (by omega) (by omega) (fun h1 e1 => ?_)
              first | have hm_1 := s_up_off e1 (by omega) hm | have hm_1 := s_up_at e1
              first | have ha_1 := s_up_off e1 (by omega) ha | have ha_1 := s_up_at e1
              first | have hb_1 := s_up_off e1 (by omega) hb | have hb_1 := s_up_at e1
              first | have hc_1 := s_up_off e1 (by omega) hc | have hc_1 := s_up_at e1
              first | have hw_1 := s_up_off e1 (by omega) hw | have hw_1 := s_up_at e1
              refine g_aload_n dX9_take_143 rfl (by rfl) ?_
              refine g_getf dX9_take_144 fX9_40 (by exact hm_1) (by omega) (by rfl) ?_
              refine g_iload_n dX9_take_147 rfl (by rfl) ?_
              refine g_dup2 dX9_take_148 (by rfl) (by rfl) ?_
              refine g_iald dX9_take_149 (by exact hc_1) (by omega) (by rfl) (by omega) (by omega) ?_
              refine g_aload_n dX9_take_150 rfl (by rfl) ?_
              refine g_getf dX9_take_151 fX9_40 (by exact hm_1) (by omega) (by rfl) ?_
              refine g_iload_n dX9_take_154 rfl (by rfl) ?_
              refine g_iload_n dX9_take_155 rfl (by rfl) ?_
              refine g_isub dX9_take_156 ?_
              refine g_iald dX9_take_157 (by exact hc_1) (by omega) (nI_sble (by omega)) (by omega) (by omega) ?_
              refine g_iadd dX9_take_158 ?_
              refine g_iast' dX9_take_159 (by exact hc_1) (by omega) (by rfl) (by omega) (by omega) (fun h2 e2 => ?_)
              first | have hm_2 := s_up_off e2 (by omega) hm_1 | have hm_2 := s_up_at e2
              first | have ha_2 := s_up_off e2 (by omega) ha_1 | have ha_2 := s_up_at e2
              first | have hb_2 := s_up_off e2 (by omega) hb_1 | have hb_2 := s_up_at e2
              first | have hc_2 := s_up_off e2 (by omega) hc_1 | have hc_2 := s_up_at e2
              first | have hw_2 := s_up_off e2 (by omega) hw_1 | have hw_2 := s_up_at e2
              have hend := m_tk (a' := a) (b' := upd b (s + 1) _) (c' := upd c (s + 1) _) hF z1 ((if_pos rfl).trans z2) ((if_pos rfl).trans z3) (fun x hx => ⟨rfl, if_neg hx, if_neg hx⟩)
              refine g_iinc (nI s) dX9_take_160 (by rfl) (nI_dec s) ?_
              refine g_goto (tgt := 10) dX9_take_163 (by decide) ?_
              exact g_lv (ih s h2 _ _ _ (by omega) (by omega) hm_2 hw_2 ha_2 hb_2 hc_2 hend (((hoff).up e1 (by omega)).up e2 (by omega))) ⟨rfl, rfl, rfl, rfl, trivial⟩
            · have z2 := z2b c_128
              refine g_iload dX9_take_131 (by rfl) ?_
              refine g_goto (tgt := 142) dX9_take_133 (by decide) ?_
              refine g_iast' dX9_take_142 (by exact hb) (by omega) (by rfl) (by omega) (by omega) (fun h3 e3 => ?_)
              first | have hm_3 := s_up_off e3 (by omega) hm | have hm_3 := s_up_at e3
              first | have ha_3 := s_up_off e3 (by omega) ha | have ha_3 := s_up_at e3
              first | have hb_3 := s_up_off e3 (by omega) hb | have hb_3 := s_up_at e3
              first | have hc_3 := s_up_off e3 (by omega) hc | have hc_3 := s_up_at e3
              first | have hw_3 := s_up_off e3 (by omega) hw | have hw_3 := s_up_at e3
              refine g_aload_n dX9_take_143 rfl (by rfl) ?_
              refine g_getf dX9_take_144 fX9_40 (by exact hm_3) (by omega) (by rfl) ?_
              refine g_iload_n dX9_take_147 rfl (by rfl) ?_
              refine g_dup2 dX9_take_148 (by rfl) (by rfl) ?_
              refine g_iald dX9_take_149 (by exact hc_3) (by omega) (by rfl) (by omega) (by omega) ?_
              refine g_aload_n dX9_take_150 rfl (by rfl) ?_
              refine g_getf dX9_take_151 fX9_40 (by exact hm_3) (by omega) (by rfl) ?_
              refine g_iload_n dX9_take_154 rfl (by rfl) ?_
              refine g_iload_n dX9_take_155 rfl (by rfl) ?_
              refine g_isub dX9_take_156 ?_
              refine g_iald dX9_take_157 (by exact hc_3) (by omega) (nI_sble (by omega)) (by omega) (by omega) ?_
              refine g_iadd dX9_take_158 ?_
              refine g_iast' dX9_take_159 (by exact hc_3) (by omega) (by rfl) (by omega) (by omega) (fun h4 e4 => ?_)
              first | have hm_4 := s_up_off e4 (by omega) hm_3 | have hm_4 := s_up_at e4
              first | have ha_4 := s_up_off e4 (by omega) ha_3 | have ha_4 := s_up_at e4
              first | have hb_4 := s_up_off e4 (by omega) hb_3 | have hb_4 := s_up_at e4
              first | have hc_4 := s_up_off e4 (by omega) hc_3 | have hc_4 := s_up_at e4
              first | have hw_4 := s_up_off e4 (by omega) hw_3 | have hw_4 := s_up_at e4
              have hend := m_tk (a' := a) (b' := upd b (s + 1) _) (c' := upd c (s + 1) _) hF z1 ((if_pos rfl).trans z2) ((if_pos rfl).trans z3) (fun x hx => ⟨rfl, if_neg hx, if_neg hx⟩)
              refine g_iinc (nI s) dX9_take_160 (by rfl) (nI_dec s) ?_
              refine g_goto (tgt := 10) dX9_take_163 (by decide) ?_
              exact g_lv (ih s h4 _ _ _ (by omega) (by omega) hm_4 hw_4 ha_4 hb_4 hc_4 hend (((hoff).up e3 (by omega)).up e4 (by omega))) ⟨rfl, rfl, rfl, rfl, trivial⟩
        · obtain ⟨z1, z2, z3⟩ := K2 c_24 c_68
          refine g_aload_n dX9_take_71 rfl (by rfl) ?_
          refine g_getf dX9_take_72 fX9_34 (by exact hm) (by omega) (by rfl) ?_
          refine g_iload_n dX9_take_75 rfl (by rfl) ?_
          refine g_iload dX9_take_76 (by rfl) ?_
          refine g_iast' dX9_take_78 (by exact ha) (by omega) (by rfl) (by omega) (by omega) (fun h5 e5 => ?_)
          first | have hm_5 := s_up_off e5 (by omega) hm | have hm_5 := s_up_at e5
          first | have ha_5 := s_up_off e5 (by omega) ha | have ha_5 := s_up_at e5
          first | have hb_5 := s_up_off e5 (by omega) hb | have hb_5 := s_up_at e5
          first | have hc_5 := s_up_off e5 (by omega) hc | have hc_5 := s_up_at e5
          first | have hw_5 := s_up_off e5 (by omega) hw | have hw_5 := s_up_at e5
          refine g_aload_n dX9_take_79 rfl (by rfl) ?_
          refine g_getf dX9_take_80 fX9_37 (by exact hm_5) (by omega) (by rfl) ?_
          refine g_iload_n dX9_take_83 rfl (by rfl) ?_
          refine g_iload dX9_take_84 (by rfl) ?_
          refine g_iast' dX9_take_86 (by exact hb_5) (by omega) (by rfl) (by omega) (by omega) (fun h6 e6 => ?_)
          first | have hm_6 := s_up_off e6 (by omega) hm_5 | have hm_6 := s_up_at e6
          first | have ha_6 := s_up_off e6 (by omega) ha_5 | have ha_6 := s_up_at e6
          first | have hb_6 := s_up_off e6 (by omega) hb_5 | have hb_6 := s_up_at e6
          first | have hc_6 := s_up_off e6 (by omega) hc_5 | have hc_6 := s_up_at e6
          first | have hw_6 := s_up_off e6 (by omega) hw_5 | have hw_6 := s_up_at e6
          refine g_aload_n dX9_take_87 rfl (by rfl) ?_
          refine g_getf dX9_take_88 fX9_40 (by exact hm_6) (by omega) (by rfl) ?_
          refine g_iload_n dX9_take_91 rfl (by rfl) ?_
          refine g_aload_n dX9_take_92 rfl (by rfl) ?_
          refine g_getf dX9_take_93 fX9_40 (by exact hm_6) (by omega) (by rfl) ?_
          refine g_iload_n dX9_take_96 rfl (by rfl) ?_
          refine g_iload_n dX9_take_97 rfl (by rfl) ?_
          refine g_isub dX9_take_98 ?_
          refine g_iald dX9_take_99 (by exact hc_6) (by omega) (nI_sble (by omega)) (by omega) (by omega) ?_
          refine g_iast' dX9_take_100 (by exact hc_6) (by omega) (by rfl) (by omega) (by omega) (fun h7 e7 => ?_)
          first | have hm_7 := s_up_off e7 (by omega) hm_6 | have hm_7 := s_up_at e7
          first | have ha_7 := s_up_off e7 (by omega) ha_6 | have ha_7 := s_up_at e7
          first | have hb_7 := s_up_off e7 (by omega) hb_6 | have hb_7 := s_up_at e7
          first | have hc_7 := s_up_off e7 (by omega) hc_6 | have hc_7 := s_up_at e7
          first | have hw_7 := s_up_off e7 (by omega) hw_6 | have hw_7 := s_up_at e7
          have hend := m_tk (a' := upd a (s + 1) _) (b' := upd b (s + 1) _) (c' := upd c (s + 1) _) hF ((if_pos rfl).trans z1) ((if_pos rfl).trans z2) ((if_pos rfl).trans z3) (fun x hx => ⟨if_neg hx, if_neg hx, if_neg hx⟩)
          refine g_goto (tgt := 160) dX9_take_101 (by decide) ?_
          refine g_iinc (nI s) dX9_take_160 (by rfl) (nI_dec s) ?_
          refine g_goto (tgt := 10) dX9_take_163 (by decide) ?_
          exact g_lv (ih s h7 _ _ _ (by omega) (by omega) hm_7 hw_7 ha_7 hb_7 hc_7 hend ((((hoff).up e5 (by omega)).up e6 (by omega)).up e7 (by omega))) ⟨rfl, rfl, rfl, rfl, trivial⟩
      · have z1 := K1 c_24
        have hend : m_tf (m_mx (k_mt (m_D w) i) (k_mt (m_D w) (i + 1)) s) a b c := m_tk hF (by rw [z1]; exact e0.1) (by rw [z1]; exact e0.2.1) (by rw [z1]; exact e0.2.2) (fun x _ => ⟨rfl, rfl, rfl⟩)
        refine g_goto (tgt := 160) dX9_take_27 (by decide) ?_
        refine g_iinc (nI s) dX9_take_160 (by rfl) (nI_dec s) ?_
        refine g_goto (tgt := 10) dX9_take_163 (by decide) ?_
        exact g_lv (ih s h' _ _ _ (by omega) (by omega) hm hw ha hb hc hend (hoff)) ⟨rfl, rfl, rfl, rfl, trivial⟩
  refine s_Mt_of rfl (by decide) (by exact Nat.le_of_ble_eq_true rfl) ?_
  refine g_aload_n dX9_take_0 rfl (by rfl) ?_
  refine g_iload_n dX9_take_1 rfl (by rfl) ?_
  refine g_iconst (nI 0) dX9_take_2 (by rfl) ?_
  refine g_callV_e (c_X9_of hM hn i 0 (by omega)) dX9_take_3 (mX9_of) rfl lX9_73 iX9_of vX9_of (by decide) (by omega) (by exact hm) rfl rfl rfl rfl (Nat.le_of_ble_eq_true rfl) ?_
  rw [hs1]
  refine g_istore_n dX9_take_6 rfl (by decide) ?_
  refine g_bipush (nI 100) dX9_take_7 (by rfl) ?_
  refine g_istore_n dX9_take_9 rfl (by decide) ?_
  refine g_lv (loop (101 - k_s (m_D w) i) 100 h a b c (by omega) (by omega) hm hw ha hb hc (fun x hx => ?_) s_off.rf) ⟨rfl, rfl, rfl, rfl, trivial⟩
  simp only [m_mx]
  rw [if_neg (by omega)]
  exact hF0 x hx
