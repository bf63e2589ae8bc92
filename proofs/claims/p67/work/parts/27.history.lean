/-! HISTORY -/
theorem g_aastD' {T : s_T} {Φ : s_P} {pc : Nat} {lv : s_V} {st : List Value} {h : s_H} {n kc ks : Nat} {a len j b : Nat} {x : Int32} {f : Nat → Option Nat} {fs : List Value} (hd : decode T.2.1 pc = .ok (.aastore, 1)) (ho : h a = .inl (3, len, .inr (.inr (.inr (.inr f))))) (ha : a < n) (hb : b < n) (hob : h b = .inr (0, fs)) (hi : x = nI j) (hj : j < len) (hl : len < 2147483648)
    (k : ∀ h1, h1 = s_up h a (.inl (3, len, .inr (.inr (.inr (.inr (va_up f j (some b))))))) → s_G T Φ (pc + 1) lv st h1 n kc ks) : s_G T Φ pc lv (.ref b :: .int x :: .ref a :: st) h n kc ks := g_aastD hd ho ha hb hob hi hj hl (k _ rfl)
def s_hist (h : s_H) (k : Nat) (pm : Nat → Nat) (D : Nat → s_D) (len : Nat) : Prop :=
  h k = .inr (2, [.ref (k + 1), .int (nI len)]) ∧ (∃ f : Nat → Option Nat, h (k + 1) = .inl (3, 10, .inr (.inr (.inr (.inr f)))) ∧ ∀ i, i < 10 → f i = some (k + 2 + 5 * pm i)) ∧
  (∀ i, i < 10 → pm i < 10) ∧ (∀ i j, i < 10 → j < 10 → pm i = pm j → i = j) ∧ ∀ i, i < 10 → s_disk h (k + 2 + 5 * pm i) (D i)
theorem s_hist.off {h h1 : s_H} {k len a b : Nat} {pm : Nat → Nat} {D : Nat → s_D} (q : s_hist h k pm D len) (z : s_off h h1 a b) (hd : k + 52 ≤ a ∨ b ≤ k) : s_hist h1 k pm D len := by
  obtain ⟨q0, ⟨f, q1, q2⟩, q3, q4, q5⟩ := q
  exact ⟨(z _ (by omega)).trans q0, ⟨f, (z _ (by omega)).trans q1, q2⟩, q3, q4, fun i hi => (q5 i hi).off z (by have := q3 i hi; omega)⟩
def o_rot {α : Type} (f : Nat → α) : Nat → α := fun i => if i < 9 then f (i + 1) else f 0
def hp_pm (pm : Nat → Nat) (len : Nat) : Nat → Nat := if len < 10 then pm else o_rot pm
def hp_D0 (D : Nat → s_D) (len : Nat) : Nat → s_D := if len < 10 then D else o_rot D
def hp_l (len : Nat) : Nat := if len < 10 then len else 9
def hp_D (D : Nat → s_D) (len : Nat) (σ : s_D) : Nat → s_D := fun i => if i = hp_l len then d_cpy σ (hp_D0 D len i) else hp_D0 D len i

theorem c_X4_forgetOldest {h : s_H} {n k len : Nat} {pm : Nat → Nat} {D : Nat → s_D} (hH : s_hist h k pm D len) (hn : k + 52 ≤ n) : s_Mt TX4_forgetOldest 0 0 [.ref k] h n (s_rp n (fun v9 h1 => v9 = none ∧ s_hist h1 k (o_rot pm) (o_rot D) 9 ∧ s_off h h1 k (k + 2)) s_no) := by
  obtain ⟨hk, ⟨f, qk, hf⟩, hpm, hinj, hds0⟩ := hH
  have loop : ∀ (r j : Nat) (h' : s_H), j + r = 9 → h' k = .inr (2, [.ref (k + 1), .int (nI len)]) → ∀ f : Nat → Option Nat, h' (k + 1) = .inl (3, 10, .inr (.inr (.inr (.inr f)))) → (∀ x, x < 10 → f x = some (k + 2 + 5 * (if x < j then pm (x + 1) else pm x))) → s_off h h' k (k + 2) → s_G TX4_forgetOldest (s_rp n (fun v9 h1 => v9 = none ∧ s_hist h1 k (o_rot pm) (o_rot D) 9 ∧ s_off h h1 k (k + 2)) s_no) 9 (s_lvs [(0, .ref k), (1, .ref (k + 2 + 5 * pm 0)), (2, .int (nI (j + 1)))]) [] h' n 0 0 := by
    intro r
    induction r with
    | zero =>
      intro j h' hj hk f qk hf hoff
      obtain rfl : j = 9 := by omega
      have hds : ∀ j, j < 10 → s_disk h' (k + 2 + 5 * pm j) (D j) := fun j hj => (hds0 j hj).off hoff (by omega)
      have hb0 := hpm 0 (by omega)
      refine g_iload_n dX4_forgetOldest_9 rfl (by rfl) ?_
      refine g_bipush 10 dX4_forgetOldest_10 (by rfl) ?_
      refine g_icmp_ge (tgt := 35) dX4_forgetOldest_12 (by decide) (fun _ => ?_) (fun c_12 => absurd (show (10 : Int32) ≤ nI (9 + 1) by decide) c_12)
      refine g_aload_n dX4_forgetOldest_35 rfl (by rfl) ?_
      refine g_getf dX4_forgetOldest_36 fX4_11 (by exact hk) (by omega) (by rfl) ?_
      refine g_bipush 9 dX4_forgetOldest_39 (by rfl) ?_
      refine g_aload_n dX4_forgetOldest_41 rfl (by rfl) ?_
      refine g_aastD' dX4_forgetOldest_42 (by exact qk) (by omega) (by omega) (by exact (hds 0 (by omega)).1) (show (9 : Int32) = nI 9 from rfl) (by omega) (by omega) (fun h1 e1 => ?_)
      first | have hk_1 := s_up_off e1 (by omega) hk | have hk_1 := s_up_at e1
      first | have qk_1 := s_up_off e1 (by omega) qk | have qk_1 := s_up_at e1
      refine g_aload_n dX4_forgetOldest_43 rfl (by rfl) ?_
      refine g_bipush 9 dX4_forgetOldest_44 (by rfl) ?_
      refine g_putf' dX4_forgetOldest_46 pX4_17 (by exact hk_1) (by omega) (by exact Nat.le_of_ble_eq_true rfl) (by rfl) (by rfl) (fun h2 e2 => ?_)
      first | have hk_2 := s_up_off e2 (by omega) hk_1 | have hk_2 := s_up_at e2
      first | have qk_2 := s_up_off e2 (by omega) qk_1 | have qk_2 := s_up_at e2
      refine g_vreturn dX4_forgetOldest_49 rfl ?_
      have hof9 : s_off h h2 k (k + 2) := ((hoff.up e1 (by omega)).up e2 (by omega))
      refine ⟨rfl, rfl, ⟨hk_2, ⟨_, qk_2, ?_⟩, ?_, ?_, ?_⟩, hof9⟩
      · intro i hi
        simp only [va_up, o_rot]
        by_cases e9 : i = 9
        · rw [if_pos e9, if_neg (by omega)]
        · rw [if_neg e9, if_pos (by omega), hf i hi, if_pos (by omega)]
      · intro i hi
        simp only [o_rot]
        split
        · exact hpm _ (by omega)
        · exact hpm _ (by omega)
      · intro i j hi hj hij
        simp only [o_rot] at hij
        by_cases e1 : i < 9 <;> by_cases e2 : j < 9
        · rw [if_pos e1, if_pos e2] at hij
          have := hinj _ _ (by omega) (by omega) hij
          omega
        · rw [if_pos e1, if_neg e2] at hij
          have := hinj _ _ (by omega) (by omega) hij
          omega
        · rw [if_neg e1, if_pos e2] at hij
          have := hinj _ _ (by omega) (by omega) hij
          omega
        · omega
      · intro i hi
        have hg : ∀ j, j < 10 → s_disk h2 (k + 2 + 5 * pm j) (D j) := fun j hj => (hds0 j hj).off hof9 (by omega)
        simp only [o_rot]
        by_cases e1 : i < 9
        · rw [if_pos e1, if_pos e1]
          exact hg _ (by omega)
        · rw [if_neg e1, if_neg e1]
          exact hg _ (by omega)
    | succ r ih =>
      intro j h' hj hk f qk hf hoff
      have hds : ∀ j, j < 10 → s_disk h' (k + 2 + 5 * pm j) (D j) := fun j hj => (hds0 j hj).off hoff (by omega)
      have hb0 := hpm (j + 1) (by omega)
      refine g_iload_n dX4_forgetOldest_9 rfl (by rfl) ?_
      refine g_bipush 10 dX4_forgetOldest_10 (by rfl) ?_
      refine g_icmp_ge (tgt := 35) dX4_forgetOldest_12 (by decide) (fun c_12 => absurd c_12 (show ¬ nI 10 ≤ nI (j + 1) from nI_ge (by omega) (by omega))) (fun _ => ?_)
      refine g_aload_n dX4_forgetOldest_15 rfl (by rfl) ?_
      refine g_getf dX4_forgetOldest_16 fX4_11 (by exact hk) (by omega) (by rfl) ?_
      refine g_iload_n dX4_forgetOldest_19 rfl (by rfl) ?_
      refine g_iconst 1 dX4_forgetOldest_20 (by rfl) ?_
      refine g_isub dX4_forgetOldest_21 ?_
      refine g_aload_n dX4_forgetOldest_22 rfl (by rfl) ?_
      refine g_getf dX4_forgetOldest_23 fX4_11 (by exact hk) (by omega) (by rfl) ?_
      refine g_iload_n dX4_forgetOldest_26 rfl (by rfl) ?_
      refine g_aaldD dX4_forgetOldest_27 (by exact qk) (by omega) (by rfl) (by omega) (by omega) (by exact (hf (j + 1) (by omega)).trans (by rw [if_neg (by omega)])) ?_
      refine g_aastD' dX4_forgetOldest_28 (by exact qk) (by omega) (by omega) (by exact (hds (j + 1) (by omega)).1) (by exact nI_pred j) (by omega) (by omega) (fun h1 e1 => ?_)
      first | have hk_1 := s_up_off e1 (by omega) hk | have hk_1 := s_up_at e1
      first | have qk_1 := s_up_off e1 (by omega) qk | have qk_1 := s_up_at e1
      refine g_iinc (nI (j + 2)) dX4_forgetOldest_29 (by rfl) (nI_inc (j + 1)) ?_
      refine g_goto (tgt := 9) dX4_forgetOldest_32 (by decide) ?_
      refine g_lv (ih (j + 1) h1 (by omega) hk_1 _ qk_1 ?_ (hoff.up e1 (by omega))) ⟨rfl, rfl, rfl, trivial⟩
      intro x hx
      simp only [va_up]
      by_cases e9 : x = j
      · rw [if_pos e9, e9, if_pos (by omega)]
      · rw [if_neg e9, hf x hx]
        by_cases e8 : x < j
        · rw [if_pos e8, if_pos (by omega)]
        · rw [if_neg e8, if_neg (by omega)]
  refine s_Mt_of rfl (by decide) (by exact Nat.le_of_ble_eq_true rfl) ?_
  refine g_aload_n dX4_forgetOldest_0 rfl (by rfl) ?_
  refine g_getf dX4_forgetOldest_1 fX4_11 (by exact hk) (by omega) (by rfl) ?_
  refine g_iconst 0 dX4_forgetOldest_4 (by rfl) ?_
  refine g_aaldD dX4_forgetOldest_5 (by exact qk) (by omega) (show (0 : Int32) = nI 0 from rfl) (by omega) (by omega) (by exact hf 0 (by omega)) ?_
  refine g_astore_n dX4_forgetOldest_6 rfl (by decide) ?_
  refine g_iconst 1 dX4_forgetOldest_7 (by rfl) ?_
  refine g_istore_n dX4_forgetOldest_8 rfl (by decide) ?_
  exact g_lv (loop 9 0 h (by omega) hk f qk (fun x hx => by rw [if_neg (by omega)]; exact hf x hx) s_off.rf) ⟨rfl, rfl, rfl, trivial⟩

theorem c_X4_remember {h : s_H} {n k len : Nat} {pm : Nat → Nat} {D : Nat → s_D} (hH : s_hist h k pm D len) (hn : k + 52 ≤ n) {d : Nat} {σ : s_D} (hD : s_disk h d σ) (hnd : d + 4 < n) (hdk : d + 5 ≤ k ∨ k + 52 ≤ d) (hlen : len ≤ 10) : s_Mt TX4_remember 0 0 [.ref k, .ref d] h n (s_rp n (fun v9 h1 => v9 = none ∧ s_hist h1 k (hp_pm pm len) (hp_D D len σ) (hp_l len + 1) ∧ s_off h h1 k (k + 52)) s_no) := by
  have tail : ∀ (h' : s_H), s_hist h' k (hp_pm pm len) (hp_D0 D len) (hp_l len) → s_disk h' d σ → s_off h h' k (k + 52) → s_G TX4_remember (s_rp n (fun v9 h1 => v9 = none ∧ s_hist h1 k (hp_pm pm len) (hp_D D len σ) (hp_l len + 1) ∧ s_off h h1 k (k + 52)) s_no) 13 (s_lvs [(0, .ref k), (1, .ref d)]) [] h' n 0 0 := by
    intro h' hH hD hoff
    obtain ⟨hk, ⟨f, qk, hf⟩, hpm, hinj, hds⟩ := hH
    have hl9 : hp_l len < 10 := by simp only [hp_l]; split <;> omega
    have hl10 : hp_l len < 10 := hl9
    refine g_aload_n dX4_remember_13 rfl (by rfl) ?_
    refine g_getf dX4_remember_14 fX4_11 (by exact hk) (by omega) (by rfl) ?_
    refine g_aload_n dX4_remember_17 rfl (by rfl) ?_
    refine g_getf dX4_remember_18 fX4_17 (by exact hk) (by omega) (by rfl) ?_
    refine g_aaldD dX4_remember_21 (by exact qk) (by omega) (by rfl) (by omega) (by omega) (by exact hf _ hl9) ?_
    refine g_aload_n dX4_remember_22 rfl (by rfl) ?_
    have hb7 := hpm _ hl9
    refine g_callV_p (c_X2_copyFrom (hds _ hl9) hD (by have := hpm _ hl9; omega) hnd (by have := hpm _ hl9; omega)) dX4_remember_23 (mX2_copyFrom) rfl lX4_25 iX2_copyFrom vX2_copyFrom (by decide) (by omega) (by exact (hds _ hl9).1) rfl rfl rfl rfl (Nat.le_of_ble_eq_true rfl) (fun v9 h5 q9 => ?_)
    obtain ⟨rfl, qd, qoff⟩ := q9
    have hb9 := hpm _ hl9
    have hk_1 := (qoff _ (by omega)).trans hk
    have qk_1 := (qoff _ (by omega)).trans qk
    refine g_aload_n dX4_remember_26 rfl (by rfl) ?_
    refine g_dup dX4_remember_27 (by rfl) ?_
    refine g_getf dX4_remember_28 fX4_17 (by exact hk_1) (by omega) (by rfl) ?_
    refine g_iconst 1 dX4_remember_31 (by rfl) ?_
    refine g_iadd dX4_remember_32 ?_
    refine g_putf' dX4_remember_33 pX4_17 (by exact hk_1) (by omega) (by exact Nat.le_of_ble_eq_true rfl) (by rfl) (by rfl) (fun h2 e2 => ?_)
    first | have hk_2 := s_up_off e2 (by omega) hk_1 | have hk_2 := s_up_at e2
    first | have qk_2 := s_up_off e2 (by omega) qk_1 | have qk_2 := s_up_at e2
    refine g_vreturn dX4_remember_36 rfl ?_
    have z9 := hk_2
    rw [nI_1] at z9
    have hof9 : s_off h5 h2 k (k + 1) := s_off.rf.up e2 (by omega)
    refine ⟨rfl, rfl, ⟨z9, ⟨f, qk_2, hf⟩, hpm, hinj, ?_⟩, (hoff.trans (qoff.wide (by omega) (by omega))).trans (hof9.wide (by omega) (by omega))⟩
    intro i hi
    simp only [hp_D]
    by_cases e9 : i = hp_l len
    · rw [if_pos e9, e9]
      exact qd.off hof9 (by omega)
    · rw [if_neg e9]
      have hne : hp_pm pm len i ≠ hp_pm pm len (hp_l len) := fun z => e9 (hinj _ _ hi hl9 z)
      have hb8 := hpm i hi
      exact ((hds i hi).off qoff (by omega)).off hof9 (by omega)
  obtain ⟨hk, ⟨f, qk, hf⟩, hpm, hinj, hds0⟩ := id hH
  refine s_Mt_of rfl (by decide) (by exact Nat.le_of_ble_eq_true rfl) ?_
  refine g_aload_n dX4_remember_0 rfl (by rfl) ?_
  refine g_getf dX4_remember_1 fX4_17 (by exact hk) (by omega) (by rfl) ?_
  refine g_bipush 10 dX4_remember_4 (by rfl) ?_
  refine g_icmp_lt (tgt := 13) dX4_remember_6 (by decide) (fun c_6 => ?_) (fun c_6 => ?_)
  · have hl9 : len < 10 := (nI_ltI (by omega) (by decide)).mp (show nI len < nI 10 from c_6)
    first
      | exact g_lv (tail h (by rw [hp_pm, hp_D0, hp_l, if_pos hl9, if_pos hl9, if_pos hl9]; exact hH) hD s_off.rf) ⟨rfl, rfl, trivial⟩
      | exact g_lv (tail h9 (by rw [hp_pm, hp_D0, hp_l, if_neg hl9, if_neg hl9, if_neg hl9]; exact qh) (hD.off qoff (by omega)) (qoff.wide (by omega) (by omega))) ⟨rfl, rfl, trivial⟩
  · have hl9 : ¬ len < 10 := fun z => c_6 (show nI len < nI 10 from nI_lt z (by decide))
    refine g_aload_n dX4_remember_9 rfl (by rfl) ?_
    refine g_callV_p (c_X4_forgetOldest hH hn) dX4_remember_10 (mX4_forgetOldest) rfl lX4_22 iX4_forgetOldest vX4_forgetOldest (by decide) (by omega) (by exact hk) rfl rfl rfl rfl (Nat.le_of_ble_eq_true rfl) (fun v9 h9 q9 => ?_)
    obtain ⟨rfl, qh, qoff⟩ := q9
    first
      | exact g_lv (tail h (by rw [hp_pm, hp_D0, hp_l, if_pos hl9, if_pos hl9, if_pos hl9]; exact hH) hD s_off.rf) ⟨rfl, rfl, trivial⟩
      | exact g_lv (tail h9 (by rw [hp_pm, hp_D0, hp_l, if_neg hl9, if_neg hl9, if_neg hl9]; exact qh) (hD.off qoff (by omega)) (qoff.wide (by omega) (by omega))) ⟨rfl, rfl, trivial⟩

theorem c_X4_takeBack {h : s_H} {n k len : Nat} {pm : Nat → Nat} {D : Nat → s_D} (hH : s_hist h k pm D (len + 1)) (hn : k + 52 ≤ n) {d : Nat} {σ : s_D} (hD : s_disk h d σ) (hnd : d + 4 < n) (hdk : d + 5 ≤ k ∨ k + 52 ≤ d) (hlen : len < 10) : s_Mt TX4_takeBack 0 0 [.ref k, .ref d] h n (s_rp n (fun v9 h1 => v9 = none ∧ s_hist h1 k pm D len ∧ s_disk h1 d (d_cpy (D len) σ) ∧ s_off2 h h1 k (k + 52) d (d + 5)) s_no) := by
  obtain ⟨hk, ⟨f, qk, hf⟩, hpm, hinj, hds⟩ := hH
  refine s_Mt_of rfl (by decide) (by exact Nat.le_of_ble_eq_true rfl) ?_
  refine g_aload_n dX4_takeBack_0 rfl (by rfl) ?_
  refine g_getf dX4_takeBack_1 fX4_17 (by exact hk) (by omega) (by rfl) ?_
  refine g_if_le (tgt := 30) dX4_takeBack_4 (by decide) (fun c_4 => absurd c_4 (nI_nle (by omega) (by omega))) (fun _ => ?_)
  refine g_aload_n dX4_takeBack_7 rfl (by rfl) ?_
  refine g_dup dX4_takeBack_8 (by rfl) ?_
  refine g_getf dX4_takeBack_9 fX4_17 (by exact hk) (by omega) (by rfl) ?_
  refine g_iconst 1 dX4_takeBack_12 (by rfl) ?_
  refine g_isub dX4_takeBack_13 ?_
  refine g_top (nI len) (nI_pred len) ?_
  refine g_putf' dX4_takeBack_14 pX4_17 (by exact hk) (by omega) (by exact Nat.le_of_ble_eq_true rfl) (by rfl) (by rfl) (fun h1 e1 => ?_)
  first | have hk_1 := s_up_off e1 (by omega) hk | have hk_1 := s_up_at e1
  first | have qk_1 := s_up_off e1 (by omega) qk | have qk_1 := s_up_at e1
  refine g_aload_n dX4_takeBack_17 rfl (by rfl) ?_
  refine g_aload_n dX4_takeBack_18 rfl (by rfl) ?_
  refine g_getf dX4_takeBack_19 fX4_11 (by exact hk_1) (by omega) (by rfl) ?_
  refine g_aload_n dX4_takeBack_22 rfl (by rfl) ?_
  refine g_getf dX4_takeBack_23 fX4_17 (by exact hk_1) (by omega) (by rfl) ?_
  refine g_aaldD dX4_takeBack_26 (by exact qk_1) (by omega) (by rfl) (by omega) (by omega) (by exact hf _ (by omega)) ?_
  have hof1 : s_off h h1 k (k + 1) := s_off.rf.up e1 (by omega)
  have hb9 := hpm len (by omega)
  refine g_callV_p (c_X2_copyFrom (hD.off hof1 (by omega)) ((hds len (by omega)).off hof1 (by omega)) hnd (by omega) (by omega)) dX4_takeBack_27 (mX2_copyFrom) rfl lX4_25 iX2_copyFrom vX2_copyFrom (by decide) (by omega) (by exact (hD.off hof1 (by omega)).1) rfl rfl rfl rfl (Nat.le_of_ble_eq_true rfl) (fun v9 h5 q9 => ?_)
  obtain ⟨rfl, qd, qoff⟩ := q9
  have hk_2 := (qoff _ (by omega)).trans hk_1
  have qk_2 := (qoff _ (by omega)).trans qk_1
  refine g_vreturn dX4_takeBack_30 rfl ?_
  exact ⟨rfl, rfl, ⟨hk_2, ⟨f, qk_2, hf⟩, hpm, hinj, fun i hi => by have := hpm i hi; exact ((hds i hi).off hof1 (by omega)).off qoff (by omega)⟩, qd, (s_off2.of1 (hof1.wide (by omega) (by omega))).trans (s_off2.of2 qoff)⟩
