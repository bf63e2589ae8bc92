/-! PURE: sets of items, their ranks, the table (numbers without a machine) -/
def ka_sm (g : Nat → Nat) (t : Nat → Bool) : Nat → Nat
  | 0 => 0
  | i + 1 => if t i = true then ka_sm g t i + g i else ka_sm g t i
def ka_p2 (i : Nat) : Nat := 2 ^ i
def ka_ir (w s : Nat → Nat) (i : Nat) : Int := (w i : Int) * 268435456 - (s i : Int) * 16384 - (ka_p2 i : Int)
def ka_rk (w s : Nat → Nat) (t : Nat → Bool) (n : Nat) : Int := (ka_sm w t n : Int) * 268435456 - (ka_sm s t n : Int) * 16384 - (ka_sm ka_p2 t n : Int)
def ka_tp (fr : Nat → Bool) (w s : Nat → Nat) : Nat → Nat → Int
  | 0, _ => 0
  | i + 1, c => if fr i = true then (if s i ≤ c ∧ ka_tp fr w s i c < ka_tp fr w s i (c - s i) + ka_ir w s i then ka_tp fr w s i (c - s i) + ka_ir w s i else ka_tp fr w s i c) else ka_tp fr w s i c
def ka_sub (fr t : Nat → Bool) (n : Nat) : Prop := ∀ j, j < n → t j = true → fr j = true
theorem ka_sm_eq {g : Nat → Nat} {t t' : Nat → Bool} : ∀ n, (∀ j, j < n → t j = t' j) → ka_sm g t n = ka_sm g t' n
  | 0, _ => rfl
  | n + 1, h => by
    unfold ka_sm
    rw [ka_sm_eq n (fun j hj => h j (by omega)), h n (by omega)]
theorem ka_p2s (n : Nat) : ka_p2 (n + 1) = 2 * ka_p2 n := by unfold ka_p2; rw [Nat.pow_succ, Nat.mul_comm]
theorem ka_p2_pos (n : Nat) : 0 < ka_p2 n := Nat.two_pow_pos n
theorem ka_M_lt {t : Nat → Bool} : ∀ n, ka_sm ka_p2 t n < ka_p2 n
  | 0 => ka_p2_pos 0
  | n + 1 => by
    have ih := ka_M_lt (t := t) n
    have := ka_p2s n
    unfold ka_sm
    split <;> omega
theorem ka_p2_le {a b : Nat} (h : a ≤ b) : ka_p2 a ≤ ka_p2 b := Nat.pow_le_pow_right (by omega) h
theorem ka_M14 {t : Nat → Bool} {n : Nat} (hn : n ≤ 14) : ka_sm ka_p2 t n < 16384 := by
  have := ka_M_lt (t := t) n
  have h2 := ka_p2_le hn
  have h3 : ka_p2 14 = 16384 := by decide
  omega
theorem ka_M_inj {t t' : Nat → Bool} : ∀ n, ka_sm ka_p2 t n = ka_sm ka_p2 t' n → ∀ j, j < n → t j = t' j
  | 0, _, j, hj => by omega
  | n + 1, h, j, hj => by
    have h1 := ka_M_lt (t := t) n
    have h2 := ka_M_lt (t := t') n
    unfold ka_sm at h
    cases e1 : t n <;> cases e2 : t' n
    · simp only [e1, e2, Bool.false_eq_true, if_false] at h
      by_cases ej : j = n
      · subst ej; rw [e1, e2]
      · exact ka_M_inj n h j (by omega)
    · simp only [e1, e2, Bool.false_eq_true, if_false, if_true] at h
      omega
    · simp only [e1, e2, Bool.false_eq_true, if_false, if_true] at h
      omega
    · simp only [e1, e2, if_true] at h
      by_cases ej : j = n
      · subst ej; rw [e1, e2]
      · exact ka_M_inj n (by omega) j (by omega)
theorem ka_sm_s (g : Nat → Nat) (t : Nat → Bool) (i : Nat) : ka_sm g t (i + 1) = if t i = true then ka_sm g t i + g i else ka_sm g t i := rfl
theorem ka_rk_t {w s : Nat → Nat} {t : Nat → Bool} {i : Nat} (h : t i = true) : ka_rk w s t (i + 1) = ka_rk w s t i + ka_ir w s i := by
  unfold ka_rk ka_ir
  rw [ka_sm_s, ka_sm_s, ka_sm_s, if_pos h, if_pos h, if_pos h]
  push_cast
  omega
theorem ka_rk_f {w s : Nat → Nat} {t : Nat → Bool} {i : Nat} (h : ¬ t i = true) : ka_rk w s t (i + 1) = ka_rk w s t i := by
  unfold ka_rk
  rw [ka_sm_s, ka_sm_s, ka_sm_s, if_neg h, if_neg h, if_neg h]
def ka_up (t : Nat → Bool) (i : Nat) (b : Bool) : Nat → Bool := fun j => if j = i then b else t j
theorem ka_up_at {t : Nat → Bool} {i : Nat} {b : Bool} : ka_up t i b i = b := if_pos rfl
theorem ka_up_ne {t : Nat → Bool} {i j : Nat} {b : Bool} (h : j ≠ i) : ka_up t i b j = t j := if_neg h
theorem ka_sm_up_hi {g : Nat → Nat} {t : Nat → Bool} {i : Nat} {b : Bool} {n : Nat} (h : n ≤ i) : ka_sm g (ka_up t i b) n = ka_sm g t n := ka_sm_eq n (fun j hj => ka_up_ne (by omega))
/-- the table's cell is the greatest rank of a set of free items that fits -/
theorem ka_max {fr : Nat → Bool} {w s : Nat → Nat} : ∀ n c, (∃ t, ka_sub fr t n ∧ ka_sm s t n ≤ c ∧ ka_tp fr w s n c = ka_rk w s t n) ∧ ∀ t, ka_sub fr t n → ka_sm s t n ≤ c → ka_rk w s t n ≤ ka_tp fr w s n c
  | 0, c => ⟨⟨fun _ => false, fun j hj => by omega, Nat.zero_le _, by simp [ka_rk, ka_sm, ka_tp]⟩, fun t _ _ => by simp [ka_rk, ka_sm, ka_tp]⟩
  | n + 1, c => by
    obtain ⟨⟨t0, a1, a2, a3⟩, a4⟩ := ka_max (fr := fr) (w := w) (s := s) n c
    have e0 : ∀ t : Nat → Bool, t n = false → ka_rk w s t (n + 1) = ka_rk w s t n := fun t h => by simp [ka_rk, ka_sm, h]
    have e1 : ∀ t : Nat → Bool, t n = true → ka_rk w s t (n + 1) = ka_rk w s t n + ka_ir w s n := fun t h => by
      simp only [ka_rk, ka_sm, h, if_true, ka_ir]
      push_cast
      omega
    have s0 : ∀ t : Nat → Bool, t n = false → ka_sm s t (n + 1) = ka_sm s t n := fun t h => by simp [ka_sm, h]
    have s1 : ∀ t : Nat → Bool, t n = true → ka_sm s t (n + 1) = ka_sm s t n + s n := fun t h => by simp [ka_sm, h]
    have sub0 : ∀ t : Nat → Bool, ka_sub fr t (n + 1) → ka_sub fr t n := fun t h j hj => h j (by omega)
    have up0 : ∀ t : Nat → Bool, ka_sub fr t n → ka_sub fr (ka_up t n false) (n + 1) := fun t h j hj hj2 => by
      by_cases ej : j = n
      · subst ej; rw [ka_up_at] at hj2; cases hj2
      · rw [ka_up_ne ej] at hj2; exact h j (by omega) hj2
    have rk_up : ∀ (t : Nat → Bool) b, ka_rk w s (ka_up t n b) n = ka_rk w s t n := fun t b => by simp only [ka_rk, ka_sm_up_hi (Nat.le_refl n)]
    by_cases hf : fr n = true
    · obtain ⟨⟨t1, b1, b2, b3⟩, b4⟩ := ka_max (fr := fr) (w := w) (s := s) n (c - s n)
      have ht : ka_tp fr w s (n + 1) c = (if s n ≤ c ∧ ka_tp fr w s n c < ka_tp fr w s n (c - s n) + ka_ir w s n then ka_tp fr w s n (c - s n) + ka_ir w s n else ka_tp fr w s n c) := by
        show (if fr n = true then _ else _) = _
        rw [if_pos hf]
      rw [ht]
      constructor
      · by_cases hc : s n ≤ c ∧ ka_tp fr w s n c < ka_tp fr w s n (c - s n) + ka_ir w s n
        · rw [if_pos hc]
          refine ⟨ka_up t1 n true, fun j hj hj2 => ?_, ?_, ?_⟩
          · by_cases ej : j = n
            · subst ej; exact hf
            · rw [ka_up_ne ej] at hj2; exact b1 j (by omega) hj2
          · rw [s1 _ ka_up_at, ka_sm_up_hi (Nat.le_refl n)]; omega
          · rw [e1 _ ka_up_at, rk_up, b3]
        · rw [if_neg hc]
          refine ⟨ka_up t0 n false, up0 _ a1, ?_, ?_⟩
          · rw [s0 _ ka_up_at, ka_sm_up_hi (Nat.le_refl n)]; exact a2
          · rw [e0 _ ka_up_at, rk_up, a3]
      · intro t h1 h2
        cases et : t n with
        | false =>
          rw [e0 _ et]
          rw [s0 _ et] at h2
          have := a4 t (sub0 t h1) h2
          split <;> omega
        | true =>
          rw [e1 _ et]
          rw [s1 _ et] at h2
          have := b4 t (sub0 t h1) (by omega)
          split <;> omega
    · have ht : ka_tp fr w s (n + 1) c = ka_tp fr w s n c := by
        show (if fr n = true then _ else _) = _
        rw [if_neg hf]
      rw [ht]
      refine ⟨⟨ka_up t0 n false, up0 _ a1, by rw [s0 _ ka_up_at, ka_sm_up_hi (Nat.le_refl n)]; exact a2, by rw [e0 _ ka_up_at, rk_up, a3]⟩, fun t h1 h2 => ?_⟩
      have et : t n = false := by
        cases e : t n with
        | false => rfl
        | true => exact absurd (h1 n (by omega) e) hf
      rw [e0 _ et]
      rw [s0 _ et] at h2
      exact a4 t (sub0 t h1) h2
/-- ranks tell sets apart -/
theorem ka_rk_M {w s : Nat → Nat} {t t' : Nat → Bool} {n : Nat} (hn : n ≤ 14) (h : ka_rk w s t n = ka_rk w s t' n) : ka_sm ka_p2 t n = ka_sm ka_p2 t' n := by
  have h1 := ka_M14 (t := t) hn
  have h2 := ka_M14 (t := t') hn
  unfold ka_rk at h
  omega
/-! the table by exact sizes -/
def ka_mt (fr : Nat → Bool) (w s : Nat → Nat) : Nat → Nat → Int × Nat × Nat
  | 0, x => if x = 0 then (0, 0, 1) else (-1, 0, 0)
  | i + 1, x => if fr i = true ∧ s i ≤ x ∧ ¬ (ka_mt fr w s i (x - s i)).1 = -1 then
      (if (ka_mt fr w s i x).1 < (ka_mt fr w s i (x - s i)).1 + w i then ((ka_mt fr w s i (x - s i)).1 + w i, (ka_mt fr w s i (x - s i)).2.1 + ka_p2 i, (ka_mt fr w s i (x - s i)).2.2)
       else if (ka_mt fr w s i (x - s i)).1 + w i = (ka_mt fr w s i x).1 then ((ka_mt fr w s i x).1, (if (ka_mt fr w s i (x - s i)).2.1 + ka_p2 i < (ka_mt fr w s i x).2.1 then (ka_mt fr w s i (x - s i)).2.1 + ka_p2 i else (ka_mt fr w s i x).2.1), (ka_mt fr w s i x).2.2 + (ka_mt fr w s i (x - s i)).2.2)
       else ka_mt fr w s i x)
    else ka_mt fr w s i x
theorem ka_mt_s {fr : Nat → Bool} {w s : Nat → Nat} (i x : Nat) : ka_mt fr w s (i + 1) x = (if fr i = true ∧ s i ≤ x ∧ ¬ (ka_mt fr w s i (x - s i)).1 = -1 then
      (if (ka_mt fr w s i x).1 < (ka_mt fr w s i (x - s i)).1 + w i then ((ka_mt fr w s i (x - s i)).1 + w i, (ka_mt fr w s i (x - s i)).2.1 + ka_p2 i, (ka_mt fr w s i (x - s i)).2.2)
       else if (ka_mt fr w s i (x - s i)).1 + w i = (ka_mt fr w s i x).1 then ((ka_mt fr w s i x).1, (if (ka_mt fr w s i (x - s i)).2.1 + ka_p2 i < (ka_mt fr w s i x).2.1 then (ka_mt fr w s i (x - s i)).2.1 + ka_p2 i else (ka_mt fr w s i x).2.1), (ka_mt fr w s i x).2.2 + (ka_mt fr w s i (x - s i)).2.2)
       else ka_mt fr w s i x)
    else ka_mt fr w s i x) := rfl
theorem ka_mt_inv {fr : Nat → Bool} {w s : Nat → Nat} : ∀ n x, ((ka_mt fr w s n x).1 = -1 ∨ 0 ≤ (ka_mt fr w s n x).1) ∧ (ka_mt fr w s n x).2.1 < ka_p2 n
  | 0, x => by
    unfold ka_mt
    split
    · exact ⟨Or.inr (Int.le_refl _), by decide⟩
    · exact ⟨Or.inl rfl, by decide⟩
  | n + 1, x => by
    have h1 := ka_mt_inv (fr := fr) (w := w) (s := s) n x
    have h2 := ka_mt_inv (fr := fr) (w := w) (s := s) n (x - s n)
    have hp := ka_p2s n
    have hpp := ka_p2_pos n
    unfold ka_mt
    split
    · split
      · exact ⟨Or.inr (by dsimp only; omega), by dsimp only; omega⟩
      · split
        · refine ⟨h1.1, ?_⟩
          dsimp only
          split <;> omega
        · exact ⟨h1.1, by omega⟩
    · exact ⟨h1.1, by omega⟩
theorem ka_mt_0 {fr : Nat → Bool} {w s : Nat → Nat} : ∀ n, (∀ i, i < n → 1 ≤ s i) → ka_mt fr w s n 0 = (0, 0, 1)
  | 0, _ => rfl
  | n + 1, h => by
    have := h n (by omega)
    unfold ka_mt
    rw [if_neg (by omega)]
    exact ka_mt_0 n (fun i hi => h i (by omega))
def ka_R (fr : Nat → Bool) (w s : Nat → Nat) (n x : Nat) : Int := (ka_mt fr w s n x).1 * 268435456 - (x : Int) * 16384 - ((ka_mt fr w s n x).2.1 : Int)
theorem ka_mt_tp {fr : Nat → Bool} {w s : Nat → Nat} : ∀ n, n ≤ 14 → ∀ c, (∃ x, x ≤ c ∧ 0 ≤ (ka_mt fr w s n x).1 ∧ ka_tp fr w s n c = ka_R fr w s n x) ∧ ∀ x, x ≤ c → 0 ≤ (ka_mt fr w s n x).1 → ka_R fr w s n x ≤ ka_tp fr w s n c
  | 0, _, c => ⟨⟨0, Nat.zero_le _, Int.le_refl _, rfl⟩, fun x hx h => by
      by_cases e : x = 0
      · subst e; exact Int.le_refl _
      · simp [ka_mt, e] at h⟩
  | n + 1, hn, c => by
    obtain ⟨⟨x0, a1, a2, a3⟩, a4⟩ := ka_mt_tp (fr := fr) (w := w) (s := s) n (by omega) c
    have hp2 : ka_p2 n ≤ 8192 := by
      have := ka_p2_le (a := n) (b := 13) (by omega)
      have e : ka_p2 13 = 8192 := by decide
      omega
    -- what a cell's rank is
    have stepR : ∀ x, 0 ≤ (ka_mt fr w s (n + 1) x).1 → (0 ≤ (ka_mt fr w s n x).1 ∧ ka_R fr w s (n + 1) x = ka_R fr w s n x) ∨ (fr n = true ∧ s n ≤ x ∧ 0 ≤ (ka_mt fr w s n (x - s n)).1 ∧ ka_R fr w s (n + 1) x = ka_R fr w s n (x - s n) + ka_ir w s n) := by
      intro x hx
      have i1 := ka_mt_inv (fr := fr) (w := w) (s := s) n x
      have i2 := ka_mt_inv (fr := fr) (w := w) (s := s) n (x - s n)
      unfold ka_R
      rw [ka_mt_s] at hx ⊢
      by_cases h1 : fr n = true ∧ s n ≤ x ∧ ¬ (ka_mt fr w s n (x - s n)).1 = -1
      · rw [if_pos h1] at hx ⊢
        by_cases h2 : (ka_mt fr w s n x).1 < (ka_mt fr w s n (x - s n)).1 + w n
        · rw [if_pos h2] at hx ⊢
          right
          refine ⟨h1.1, h1.2.1, by omega, ?_⟩
          unfold ka_ir
          dsimp only
          omega
        · rw [if_neg h2] at hx ⊢
          by_cases h3 : (ka_mt fr w s n (x - s n)).1 + w n = (ka_mt fr w s n x).1
          · rw [if_pos h3] at hx ⊢
            dsimp only at hx ⊢
            by_cases h4 : (ka_mt fr w s n (x - s n)).2.1 + ka_p2 n < (ka_mt fr w s n x).2.1
            · rw [if_pos h4]
              right
              refine ⟨h1.1, h1.2.1, by omega, ?_⟩
              unfold ka_ir
              omega
            · rw [if_neg h4]
              left
              exact ⟨hx, rfl⟩
          · rw [if_neg h3] at hx ⊢
            left
            exact ⟨hx, rfl⟩
      · rw [if_neg h1] at hx ⊢
        left
        exact ⟨hx, rfl⟩
    -- no cell falls below what it could be
    have upR : ∀ x, 0 ≤ (ka_mt fr w s n x).1 → 0 ≤ (ka_mt fr w s (n + 1) x).1 ∧ ka_R fr w s n x ≤ ka_R fr w s (n + 1) x := by
      intro x hx
      have i1 := ka_mt_inv (fr := fr) (w := w) (s := s) n x
      have i2 := ka_mt_inv (fr := fr) (w := w) (s := s) n (x - s n)
      unfold ka_R
      rw [ka_mt_s]
      by_cases h1 : fr n = true ∧ s n ≤ x ∧ ¬ (ka_mt fr w s n (x - s n)).1 = -1
      · rw [if_pos h1]
        by_cases h2 : (ka_mt fr w s n x).1 < (ka_mt fr w s n (x - s n)).1 + w n
        · rw [if_pos h2]
          dsimp only
          omega
        · rw [if_neg h2]
          by_cases h3 : (ka_mt fr w s n (x - s n)).1 + w n = (ka_mt fr w s n x).1
          · rw [if_pos h3]
            dsimp only
            split <;> omega
          · rw [if_neg h3]
            omega
      · rw [if_neg h1]
        omega
    have upT : ∀ x, fr n = true → s n ≤ x → 0 ≤ (ka_mt fr w s n (x - s n)).1 → 0 ≤ (ka_mt fr w s (n + 1) x).1 ∧ ka_R fr w s n (x - s n) + ka_ir w s n ≤ ka_R fr w s (n + 1) x := by
      intro x hf hsx hx
      have i1 := ka_mt_inv (fr := fr) (w := w) (s := s) n x
      have i2 := ka_mt_inv (fr := fr) (w := w) (s := s) n (x - s n)
      unfold ka_R ka_ir
      rw [ka_mt_s]
      rw [if_pos ⟨hf, hsx, by omega⟩]
      by_cases h2 : (ka_mt fr w s n x).1 < (ka_mt fr w s n (x - s n)).1 + w n
      · rw [if_pos h2]
        dsimp only
        omega
      · rw [if_neg h2]
        by_cases h3 : (ka_mt fr w s n (x - s n)).1 + w n = (ka_mt fr w s n x).1
        · rw [if_pos h3]
          dsimp only
          split <;> omega
        · rw [if_neg h3]
          omega
    by_cases hf : fr n = true
    · obtain ⟨⟨x1, b1, b2, b3⟩, b4⟩ := ka_mt_tp (fr := fr) (w := w) (s := s) n (by omega) (c - s n)
      have ht : ka_tp fr w s (n + 1) c = (if s n ≤ c ∧ ka_tp fr w s n c < ka_tp fr w s n (c - s n) + ka_ir w s n then ka_tp fr w s n (c - s n) + ka_ir w s n else ka_tp fr w s n c) := by
        show (if fr n = true then _ else _) = _
        rw [if_pos hf]
      have hle : ∀ x, x ≤ c → 0 ≤ (ka_mt fr w s (n + 1) x).1 → ka_R fr w s (n + 1) x ≤ ka_tp fr w s (n + 1) c := by
        intro x hx h
        rw [ht]
        rcases stepR x h with ⟨q1, q2⟩ | ⟨q1, q2, q3, q4⟩
        · have := a4 x hx q1
          rw [q2]
          split <;> omega
        · have := b4 (x - s n) (by omega) q3
          rw [q4]
          split <;> omega
      refine ⟨?_, hle⟩
      by_cases hc : s n ≤ c ∧ ka_tp fr w s n c < ka_tp fr w s n (c - s n) + ka_ir w s n
      · obtain ⟨q1, q2⟩ := upT (x1 + s n) hf (by omega) (by rw [Nat.add_sub_cancel]; exact b2)
        rw [Nat.add_sub_cancel] at q2
        have q3 := hle (x1 + s n) (by omega) q1
        refine ⟨x1 + s n, by omega, q1, ?_⟩
        rw [ht, if_pos hc] at q3 ⊢
        omega
      · obtain ⟨q1, q2⟩ := upR x0 a2
        have q3 := hle x0 a1 q1
        refine ⟨x0, a1, q1, ?_⟩
        rw [ht, if_neg hc] at q3 ⊢
        omega
    · have ht : ka_tp fr w s (n + 1) c = ka_tp fr w s n c := by
        show (if fr n = true then _ else _) = _
        rw [if_neg hf]
      have hm : ∀ x, ka_mt fr w s (n + 1) x = ka_mt fr w s n x := fun x => by
        rw [ka_mt_s, if_neg (fun z => hf z.1)]
      have hR : ∀ x, ka_R fr w s (n + 1) x = ka_R fr w s n x := fun x => by unfold ka_R; rw [hm]
      rw [ht]
      exact ⟨⟨x0, a1, by rw [hm]; exact a2, by rw [hR]; exact a3⟩, fun x hx h => by rw [hR]; rw [hm] at h; exact a4 x hx h⟩
/-- the first greatest place -/
def ka_be (f : Nat → Int) : Nat → Nat
  | 0 => 0
  | x + 1 => if f (ka_be f x) < f (x + 1) then x + 1 else ka_be f x
theorem ka_be_ok {f : Nat → Int} : ∀ r, ka_be f r ≤ r ∧ ∀ x, x ≤ r → f x < f (ka_be f r) ∨ (f x = f (ka_be f r) ∧ ka_be f r ≤ x)
  | 0 => ⟨Nat.le_refl _, fun x hx => by
      obtain rfl : x = 0 := by omega
      exact Or.inr ⟨rfl, Nat.le_refl _⟩⟩
  | r + 1 => by
    obtain ⟨h1, h2⟩ := ka_be_ok (f := f) r
    unfold ka_be
    by_cases hc : f (ka_be f r) < f (r + 1)
    · rw [if_pos hc]
      refine ⟨Nat.le_refl _, fun x hx => ?_⟩
      by_cases e : x = r + 1
      · subst e; exact Or.inr ⟨rfl, Nat.le_refl _⟩
      · rcases h2 x (by omega) with q | q <;> omega
    · rw [if_neg hc]
      refine ⟨by omega, fun x hx => ?_⟩
      by_cases e : x = r + 1
      · subst e; omega
      · exact h2 x (by omega)
theorem ka_best {fr : Nat → Bool} {w s : Nat → Nat} {n r : Nat} (hn : n ≤ 14) (hr : r ≤ 1000) (hs : ∀ i, i < n → 1 ≤ s i) :
    ka_R fr w s n (ka_be (fun x => (ka_mt fr w s n x).1) r) = ka_tp fr w s n r ∧ 0 ≤ (ka_mt fr w s n (ka_be (fun x => (ka_mt fr w s n x).1) r)).1 := by
  obtain ⟨h1, h2⟩ := ka_be_ok (f := fun x => (ka_mt fr w s n x).1) r
  obtain ⟨⟨x0, a1, a2, a3⟩, a4⟩ := ka_mt_tp (fr := fr) (w := w) (s := s) n hn r
  have h3 := h2 x0 a1
  try dsimp only at h1 h3
  generalize ka_be (fun x => (ka_mt fr w s n x).1) r = b at *
  have hb0 : 0 ≤ (ka_mt fr w s n b).1 := by omega
  refine ⟨?_, hb0⟩
  have h4 := a4 b h1 hb0
  have i1 := (ka_mt_inv (fr := fr) (w := w) (s := s) n b).2
  have i2 := (ka_mt_inv (fr := fr) (w := w) (s := s) n x0).2
  have hp : ka_p2 n ≤ 16384 := by
    have := ka_p2_le hn
    have e : ka_p2 14 = 16384 := by decide
    omega
  rw [a3] at h4 ⊢
  have h5 : ka_R fr w s n x0 ≤ ka_R fr w s n b := by
    unfold ka_R
    rcases h3 with q | ⟨q1, q2⟩
    · omega
    · by_cases e : b = x0
      · subst e; exact Int.le_refl _
      · omega
  omega
/-! PURE: how many sets; which item pays -/
def ka_B (fr : Nat → Bool) (w s : Nat → Nat) : Nat → Nat → Nat
  | 0, _ => 0
  | i + 1, c => if fr i = true ∧ s i ≤ c ∧ ka_B fr w s i c < ka_B fr w s i (c - s i) + w i then ka_B fr w s i (c - s i) + w i else ka_B fr w s i c
/-- a rank's weight -/
theorem ka_B_tp {fr : Nat → Bool} {w s : Nat → Nat} : ∀ n, n ≤ 14 → ∀ c, c ≤ 1000 → (ka_B fr w s n c : Int) * 268435456 - (c : Int) * 16384 - (ka_p2 n : Int) < ka_tp fr w s n c ∧ ka_tp fr w s n c ≤ (ka_B fr w s n c : Int) * 268435456
  | 0, _, c, hc => by
    have := ka_p2_pos 0
    simp only [ka_B, ka_tp]
    omega
  | n + 1, hn, c, hc => by
    obtain ⟨a1, a2⟩ := ka_B_tp (fr := fr) (w := w) (s := s) n (by omega) c hc
    obtain ⟨b1, b2⟩ := ka_B_tp (fr := fr) (w := w) (s := s) n (by omega) (c - s n) (by omega)
    have hp := ka_p2s n
    have hpp := ka_p2_pos n
    have hp2 : ka_p2 n ≤ 8192 := by
      have := ka_p2_le (a := n) (b := 13) (by omega)
      have e : ka_p2 13 = 8192 := by decide
      omega
    unfold ka_B ka_tp
    by_cases hf : fr n = true
    · rw [if_pos hf]
      by_cases hs : s n ≤ c
      · by_cases h1 : ka_B fr w s n c < ka_B fr w s n (c - s n) + w n
        · rw [if_pos ⟨hf, hs, h1⟩]
          have h2 : ka_tp fr w s n c < ka_tp fr w s n (c - s n) + ka_ir w s n := by
            unfold ka_ir
            omega
          rw [if_pos ⟨hs, h2⟩]
          unfold ka_ir
          push_cast
          omega
        · rw [if_neg (fun z => h1 z.2.2)]
          by_cases h2 : ka_tp fr w s n c < ka_tp fr w s n (c - s n) + ka_ir w s n
          · rw [if_pos ⟨hs, h2⟩]
            unfold ka_ir at h2 ⊢
            push_cast
            omega
          · rw [if_neg (fun z => h2 z.2)]
            push_cast
            omega
      · rw [if_neg (fun z => hs z.2.1), if_neg (fun z => hs z.1)]
        push_cast
        omega
    · rw [if_neg (fun z => hf z.1), if_neg hf]
      push_cast
      omega
def ka_N (fr : Nat → Bool) (w s : Nat → Nat) : Nat → Nat → Nat → Nat
  | 0, x, v => if x = 0 ∧ v = 0 then 1 else 0
  | i + 1, x, v => ka_N fr w s i x v + (if fr i = true ∧ s i ≤ x ∧ w i ≤ v then ka_N fr w s i (x - s i) (v - w i) else 0)
theorem ka_N_mt {fr : Nat → Bool} {w s : Nat → Nat} : ∀ n x, (∀ v : Nat, (ka_mt fr w s n x).1 < (v : Int) → ka_N fr w s n x v = 0) ∧ (0 ≤ (ka_mt fr w s n x).1 → (ka_mt fr w s n x).2.2 = ka_N fr w s n x (ka_mt fr w s n x).1.toNat)
  | 0, x => by
    refine ⟨fun v hv => ?_, fun h => ?_⟩
    · unfold ka_N
      unfold ka_mt at hv
      by_cases e : x = 0
      · rw [if_pos e] at hv
        dsimp only at hv
        rw [if_neg (by omega)]
      · rw [if_neg (fun z => e z.1)]
    · unfold ka_mt at h ⊢
      by_cases e : x = 0
      · rw [if_pos e]
        simp [ka_N, e]
      · rw [if_neg e] at h
        dsimp only at h
        omega
  | n + 1, x => by
    obtain ⟨a1, a2⟩ := ka_N_mt (fr := fr) (w := w) (s := s) n x
    obtain ⟨b1, b2⟩ := ka_N_mt (fr := fr) (w := w) (s := s) n (x - s n)
    have i1 := (ka_mt_inv (fr := fr) (w := w) (s := s) n x).1
    have i2 := (ka_mt_inv (fr := fr) (w := w) (s := s) n (x - s n)).1
    by_cases h1 : fr n = true ∧ s n ≤ x ∧ ¬ (ka_mt fr w s n (x - s n)).1 = -1
    · have hz : ∀ v, (ka_mt fr w s n (x - s n)).1 + w n < (v : Nat) → (if fr n = true ∧ s n ≤ x ∧ w n ≤ v then ka_N fr w s n (x - s n) (v - w n) else 0) = 0 := fun v hv => by
        split
        · exact b1 _ (by omega)
        · rfl
      have hy : (if fr n = true ∧ s n ≤ x ∧ w n ≤ ((ka_mt fr w s n (x - s n)).1 + w n).toNat then ka_N fr w s n (x - s n) (((ka_mt fr w s n (x - s n)).1 + w n).toNat - w n) else 0) = (ka_mt fr w s n (x - s n)).2.2 := by
        rw [if_pos ⟨h1.1, h1.2.1, by omega⟩, b2 (by omega)]
        congr 1
        omega
      by_cases h2 : (ka_mt fr w s n x).1 < (ka_mt fr w s n (x - s n)).1 + w n
      · have hm : ka_mt fr w s (n + 1) x = ((ka_mt fr w s n (x - s n)).1 + w n, (ka_mt fr w s n (x - s n)).2.1 + ka_p2 n, (ka_mt fr w s n (x - s n)).2.2) := by rw [ka_mt_s, if_pos h1, if_pos h2]
        rw [hm]
        dsimp only
        refine ⟨fun v hv => ?_, fun h => ?_⟩
        · unfold ka_N
          rw [a1 v (by omega), hz v (by omega)]
        · unfold ka_N
          rw [hy, a1 _ (by omega)]
          omega
      · by_cases h3 : (ka_mt fr w s n (x - s n)).1 + w n = (ka_mt fr w s n x).1
        · have hm : ka_mt fr w s (n + 1) x = ((ka_mt fr w s n x).1, (if (ka_mt fr w s n (x - s n)).2.1 + ka_p2 n < (ka_mt fr w s n x).2.1 then (ka_mt fr w s n (x - s n)).2.1 + ka_p2 n else (ka_mt fr w s n x).2.1), (ka_mt fr w s n x).2.2 + (ka_mt fr w s n (x - s n)).2.2) := by rw [ka_mt_s, if_pos h1, if_neg h2, if_pos h3]
          rw [hm]
          dsimp only
          refine ⟨fun v hv => ?_, fun h => ?_⟩
          · unfold ka_N
            rw [a1 v (by omega), hz v (by omega)]
          · unfold ka_N
            rw [a2 h]
            rw [h3] at hy
            rw [hy]
        · have hm : ka_mt fr w s (n + 1) x = ka_mt fr w s n x := by rw [ka_mt_s, if_pos h1, if_neg h2, if_neg h3]
          rw [hm]
          refine ⟨fun v hv => ?_, fun h => ?_⟩
          · unfold ka_N
            rw [a1 v (by omega), hz v (by omega)]
          · unfold ka_N
            rw [a2 h, hz _ (by omega)]
            rfl
    · have hm : ka_mt fr w s (n + 1) x = ka_mt fr w s n x := by rw [ka_mt_s, if_neg h1]
      have hz : ∀ v, (if fr n = true ∧ s n ≤ x ∧ w n ≤ v then ka_N fr w s n (x - s n) (v - w n) else 0) = 0 := fun v => by
        split
        · rename_i q
          exact b1 _ (by
            have : (ka_mt fr w s n (x - s n)).1 = -1 := Classical.byContradiction fun z => h1 ⟨q.1, q.2.1, z⟩
            omega)
        · rfl
      rw [hm]
      refine ⟨fun v hv => ?_, fun h => ?_⟩
      · unfold ka_N
        rw [a1 v hv, hz]
      · unfold ka_N
        rw [a2 h, hz]
        rfl
def ka_su (f : Nat → Nat) : Nat → Nat
  | 0 => 0
  | k + 1 => ka_su f k + f k
theorem ka_su_add {f g : Nat → Nat} : ∀ k, ka_su (fun x => f x + g x) k = ka_su f k + ka_su g k
  | 0 => rfl
  | k + 1 => by
    simp only [ka_su]
    rw [ka_su_add k]
    omega
theorem ka_su_eq {f g : Nat → Nat} : ∀ k, (∀ x, x < k → f x = g x) → ka_su f k = ka_su g k
  | 0, _ => rfl
  | k + 1, h => by
    simp only [ka_su]
    rw [ka_su_eq k (fun x hx => h x (by omega)), h k (by omega)]
theorem ka_su_0 {f : Nat → Nat} : ∀ k, (∀ x, x < k → f x = 0) → ka_su f k = 0
  | 0, _ => rfl
  | k + 1, h => by
    simp only [ka_su]
    rw [ka_su_0 k (fun x hx => h x (by omega)), h k (by omega)]
/-- a sum that begins later -/
theorem ka_su_sh {f : Nat → Nat} {d : Nat} {p : Prop} [Decidable p] : ∀ k, ka_su (fun x => if d ≤ x ∧ p then f (x - d) else 0) (d + k) = (if p then ka_su f k else 0)
  | 0 => by
    rw [ka_su_0 _ (fun x hx => if_neg (by omega))]
    simp [ka_su]
  | k + 1 => by
    show ka_su _ (d + k) + (if d ≤ d + k ∧ p then f (d + k - d) else 0) = _
    rw [ka_su_sh k]
    by_cases hp : p
    · rw [if_pos hp, if_pos hp, if_pos ⟨by omega, hp⟩, Nat.add_sub_cancel_left]
      rfl
    · rw [if_neg hp, if_neg hp, if_neg (fun z => hp z.2)]
def ka_y (fr : Nat → Bool) (w s : Nat → Nat) : Nat → Nat → Nat
  | 0, _ => 1
  | i + 1, c => if fr i = true then (if ka_B fr w s i c = ka_B fr w s (i + 1) c then ka_y fr w s i c else 0) + (if s i ≤ c ∧ ka_B fr w s i (c - s i) + w i = ka_B fr w s (i + 1) c then ka_y fr w s i (c - s i) else 0) else ka_y fr w s i c
theorem ka_mt_B {fr : Nat → Bool} {w s : Nat → Nat} {n c x : Nat} (hn : n ≤ 14) (hc : c ≤ 1000) (hx : x ≤ c) : (ka_mt fr w s n x).1 ≤ (ka_B fr w s n c : Int) := by
  obtain ⟨b1, b2⟩ := ka_B_tp (fr := fr) (w := w) (s := s) n hn c hc
  obtain ⟨i1, i2⟩ := ka_mt_inv (fr := fr) (w := w) (s := s) n x
  rcases i1 with h | h
  · omega
  · have h2 := (ka_mt_tp (fr := fr) (w := w) (s := s) n hn c).2 x hx h
    have hp : ka_p2 n ≤ 16384 := by
      have := ka_p2_le hn
      have e : ka_p2 14 = 16384 := by decide
      omega
    unfold ka_R at h2
    omega
theorem ka_ways {fr : Nat → Bool} {w s : Nat → Nat} : ∀ n, n ≤ 14 → ∀ c, c ≤ 1000 → ka_y fr w s n c = ka_su (fun x => ka_N fr w s n x (ka_B fr w s n c)) (c + 1)
  | 0, _, c, _ => by
    simp only [ka_y, ka_B, ka_N]
    have : ∀ k, ka_su (fun x => if x = 0 ∧ True then 1 else 0) (k + 1) = 1 := fun k => by
      induction k with
      | zero => rfl
      | succ k ih => show ka_su _ (k + 1) + (if k + 1 = 0 ∧ True then 1 else 0) = 1; rw [ih, if_neg (fun z => Nat.succ_ne_zero k z.1)]
    exact (this c).symm
  | n + 1, hn, c, hc => by
    have ih := ka_ways (fr := fr) (w := w) (s := s) n (by omega)
    have hle : ∀ d, d ≤ 1000 → ∀ v, ka_B fr w s n d < v → ka_su (fun x => ka_N fr w s n x v) (d + 1) = 0 := fun d hd v hv => ka_su_0 _ (fun x hx => (ka_N_mt n x).1 v (by have := ka_mt_B (fr := fr) (w := w) (s := s) (n := n) (by omega) hd (show x ≤ d by omega); omega))
    obtain ⟨B, hB⟩ : ∃ B, B = ka_B fr w s (n + 1) c := ⟨_, rfl⟩
    have hB2 := hB
    unfold ka_B at hB2
    unfold ka_y
    rw [← hB]
    simp only [ka_N]
    rw [ka_su_add]
    by_cases hf : fr n = true
    · rw [if_pos hf]
      congr 1
      · by_cases h1 : ka_B fr w s n c = B
        · rw [if_pos h1, ih c hc, h1]
        · rw [if_neg h1]
          refine (hle c hc B ?_).symm
          split at hB2 <;> omega
      · by_cases hs : s n ≤ c
        · have e : (fun x => if fr n = true ∧ s n ≤ x ∧ w n ≤ B then ka_N fr w s n (x - s n) (B - w n) else 0) = fun x => if s n ≤ x ∧ w n ≤ B then (fun x => ka_N fr w s n x (B - w n)) (x - s n) else 0 := funext fun x => by simp only [hf, true_and]
          rw [e, show c + 1 = s n + (c - s n + 1) by omega, ka_su_sh (f := fun x => ka_N fr w s n x (B - w n)) (d := s n) (p := w n ≤ B) (c - s n + 1)]
          by_cases h1 : ka_B fr w s n (c - s n) + w n = B
          · rw [if_pos ⟨hs, h1⟩, ih _ (by omega), if_pos (by omega), show ka_B fr w s n (c - s n) = B - w n by omega]
          · rw [if_neg (fun z => h1 z.2)]
            split
            · refine (hle (c - s n) (by omega) (B - w n) ?_).symm
              split at hB2
              · omega
              · rename_i q
                have : ¬ ka_B fr w s n c < ka_B fr w s n (c - s n) + w n := fun z => q ⟨hf, hs, z⟩
                omega
            · rfl
        · rw [if_neg (fun z => hs z.1)]
          exact (ka_su_0 _ (fun x hx => if_neg (by omega))).symm
    · rw [if_neg hf, ka_su_0 (f := fun x => if fr n = true ∧ s n ≤ x ∧ w n ≤ B then ka_N fr w s n (x - s n) (B - w n) else 0) _ (fun x hx => if_neg (fun z => hf z.1)), Nat.add_zero]
      rw [if_neg (fun z => hf z.1)] at hB2
      rw [hB2]
      exact ih c hc
/-- the model's count -/
theorem ka_count {fr : Nat → Bool} {w s : Nat → Nat} {n r : Nat} (hn : n ≤ 14) (hr : r ≤ 1000) (hs : ∀ i, i < n → 1 ≤ s i) : ka_su (fun x => if (ka_mt fr w s n x).1 = (ka_mt fr w s n (ka_be (fun x => (ka_mt fr w s n x).1) r)).1 then (ka_mt fr w s n x).2.2 else 0) (r + 1) = ka_y fr w s n r := by
  obtain ⟨h1, h2⟩ := ka_best (fr := fr) (w := w) (s := s) hn hr hs
  obtain ⟨b1, b2⟩ := ka_B_tp (fr := fr) (w := w) (s := s) n hn r hr
  obtain ⟨c1, -⟩ := ka_be_ok (f := fun x => (ka_mt fr w s n x).1) r
  have hp : ka_p2 n ≤ 16384 := by
    have := ka_p2_le hn
    have e : ka_p2 14 = 16384 := by decide
    omega
  have i1 := (ka_mt_inv (fr := fr) (w := w) (s := s) n (ka_be (fun x => (ka_mt fr w s n x).1) r)).2
  have hB : (ka_mt fr w s n (ka_be (fun x => (ka_mt fr w s n x).1) r)).1 = (ka_B fr w s n r : Int) := by
    unfold ka_R at h1
    omega
  rw [ka_ways n hn r hr, hB]
  refine ka_su_eq _ (fun x hx => ?_)
  have h3 := ka_mt_B (fr := fr) (w := w) (s := s) hn hr (show x ≤ r by omega)
  by_cases e : (ka_mt fr w s n x).1 = (ka_B fr w s n r : Int)
  · rw [if_pos e, (ka_N_mt n x).2 (by omega), e]
    rfl
  · rw [if_neg e, (ka_N_mt n x).1 _ (by omega)]
/-! PURE: an item that pays, plans with the pinned ones -/
theorem ka_rk_up {w s : Nat → Nat} {t : Nat → Bool} {i : Nat} : ∀ n, i < n → t i = true → (∀ g : Nat → Nat, ka_sm g t n = ka_sm g (ka_up t i false) n + g i)
  | 0, h, _ => by omega
  | n + 1, h, ht => fun g => by
    unfold ka_sm
    by_cases e : n = i
    · subst e
      rw [if_pos ht, if_neg (by rw [ka_up_at]; decide), ka_sm_up_hi (Nat.le_refl _)]
    · rw [ka_rk_up (w := w) (s := s) n (by omega) ht g, ka_up_ne e]
      split <;> omega
theorem ka_rk_up2 {w s : Nat → Nat} {t : Nat → Bool} {i n : Nat} (hi : i < n) (ht : t i = true) : ka_rk w s t n = ka_rk w s (ka_up t i false) n + ka_ir w s i := by
  unfold ka_rk ka_ir
  rw [ka_rk_up (w := w) (s := s) n hi ht w, ka_rk_up (w := w) (s := s) n hi ht s, ka_rk_up (w := w) (s := s) n hi ht ka_p2]
  push_cast
  omega
/-- the cell is the same where the numbers of the free ones are -/
theorem ka_tp_eq {fr fr' : Nat → Bool} {w w' s s' : Nat → Nat} : ∀ n, (∀ j, j < n → fr j = fr' j) → (∀ j, j < n → fr j = true → w j = w' j ∧ s j = s' j) → ∀ c, ka_tp fr w s n c = ka_tp fr' w' s' n c
  | 0, _, _, _ => rfl
  | n + 1, h1, h2, c => by
    have ih := ka_tp_eq n (fun j hj => h1 j (by omega)) (fun j hj => h2 j (by omega))
    unfold ka_tp
    rw [← h1 n (by omega)]
    by_cases hf : fr n = true
    · obtain ⟨e1, e2⟩ := h2 n (by omega) hf
      rw [if_pos hf, if_pos hf, ih, ih, ← e2]
      unfold ka_ir
      rw [e1, e2]
    · rw [if_neg hf, if_neg hf, ih]
/-- a free item is in the best set if and only if it pays -/
theorem ka_pays {fr : Nat → Bool} {w s : Nat → Nat} {n i c : Nat} {t : Nat → Bool} (hn : n ≤ 14) (hi : i < n) (hf : fr i = true) (h1 : ka_sub fr t n) (h2 : ka_sm s t n ≤ c) (h3 : ka_tp fr w s n c = ka_rk w s t n) :
    t i = true ↔ s i ≤ c ∧ ka_tp (ka_up fr i false) w s n c < ka_tp (ka_up fr i false) w s n (c - s i) + ka_ir w s i := by
  have subf : ∀ u : Nat → Bool, ka_sub (ka_up fr i false) u n → ka_sub fr u n ∧ u i = false := fun u hu => by
    have hui : u i = false := by
      cases e : u i with
      | false => rfl
      | true => have := hu i hi e; rw [ka_up_at] at this; cases this
    refine ⟨fun j hj hj2 => ?_, hui⟩
    by_cases e : j = i
    · subst e; exact hf
    · have := hu j hj hj2
      rw [ka_up_ne e] at this
      exact this
  have best := (ka_max (fr := fr) (w := w) (s := s) n c).2
  obtain ⟨⟨u, a1, a2, a3⟩, a4⟩ := ka_max (fr := ka_up fr i false) (w := w) (s := s) n c
  constructor
  · intro hti
    have hS := ka_rk_up (w := w) (s := s) n hi hti s
    have hsub : ka_sub (ka_up fr i false) (ka_up t i false) n := fun j hj hj2 => by
      by_cases e : j = i
      · subst e; rw [ka_up_at] at hj2; cases hj2
      · rw [ka_up_ne e] at hj2 ⊢; exact h1 j hj hj2
    have b4 := (ka_max (fr := ka_up fr i false) (w := w) (s := s) n (c - s i)).2 _ hsub (by omega)
    refine ⟨by omega, ?_⟩
    have hr := ka_rk_up2 (w := w) (s := s) hi hti
    obtain ⟨q1, q2⟩ := subf u a1
    have hu := best u q1 a2
    have hne : ka_rk w s u n ≠ ka_rk w s t n := fun z => by
      have := ka_M_inj n (ka_rk_M hn z) i hi
      rw [q2, hti] at this
      cases this
    omega
  · rintro ⟨hs, hlt⟩
    obtain ⟨⟨u1, b1, b2, b3⟩, -⟩ := ka_max (fr := ka_up fr i false) (w := w) (s := s) n (c - s i)
    obtain ⟨q1, q2⟩ := subf u1 b1
    have hup : ka_sm s (ka_up u1 i true) n = ka_sm s u1 n + s i := by
      rw [ka_rk_up (w := w) (s := s) n hi ka_up_at s]
      congr 1
      refine ka_sm_eq n (fun j hj => ?_)
      by_cases e : j = i
      · subst e; rw [ka_up_at, q2]
      · rw [ka_up_ne e, ka_up_ne e]
    have hrk : ka_rk w s (ka_up u1 i true) n = ka_rk w s u1 n + ka_ir w s i := by
      have e : ∀ g, ka_sm g (ka_up (ka_up u1 i true) i false) n = ka_sm g u1 n := fun g => ka_sm_eq n (fun j hj => by
        by_cases e : j = i
        · subst e; rw [ka_up_at, q2]
        · rw [ka_up_ne e, ka_up_ne e])
      have e2 : ka_rk w s (ka_up (ka_up u1 i true) i false) n = ka_rk w s u1 n := by unfold ka_rk; rw [e, e, e]
      rw [ka_rk_up2 hi ka_up_at, e2]
    have hsub : ka_sub fr (ka_up u1 i true) n := fun j hj hj2 => by
      by_cases e : j = i
      · subst e; exact hf
      · rw [ka_up_ne e] at hj2; exact q1 j hj hj2
    have h5 := best _ hsub (by omega)
    cases hti : t i with
    | true => rfl
    | false =>
      have hs0 : ka_sub (ka_up fr i false) t n := fun j hj hj2 => by
        by_cases e : j = i
        · subst e; rw [hti] at hj2; cases hj2
        · rw [ka_up_ne e]; exact h1 j hj hj2
      have := a4 t hs0 h2
      omega
/-- two sets that are apart -/
def ka_or (p t : Nat → Bool) : Nat → Bool := fun j => p j || t j
theorem ka_sm_or {g : Nat → Nat} {p t : Nat → Bool} : ∀ n, (∀ j, j < n → t j = true → p j = false) → ka_sm g (ka_or p t) n = ka_sm g p n + ka_sm g t n
  | 0, _ => rfl
  | n + 1, h => by
    have ih := ka_sm_or (g := g) n (fun j hj => h j (by omega))
    have hn := h n (by omega)
    unfold ka_sm
    rw [ih]
    unfold ka_or
    cases e1 : t n
    · rw [Bool.or_false]
      simp only [Bool.false_eq_true, if_false]
      split <;> omega
    · rw [hn e1]
      simp only [Bool.false_or, if_true, Bool.false_eq_true, if_false]
      omega
theorem ka_rk_or {w s : Nat → Nat} {p t : Nat → Bool} {n : Nat} (h : ∀ j, j < n → t j = true → p j = false) : ka_rk w s (ka_or p t) n = ka_rk w s p n + ka_rk w s t n := by
  unfold ka_rk
  rw [ka_sm_or n h, ka_sm_or n h, ka_sm_or n h]
  push_cast
  omega
theorem ka_sm_le {g : Nat → Nat} {t : Nat → Bool} {m : Nat} : ∀ n, (∀ j, j < n → g j ≤ m) → ka_sm g t n ≤ m * n
  | 0, _ => Nat.le_refl _
  | n + 1, h => by
    have ih := ka_sm_le (g := g) (t := t) n (fun j hj => h j (by omega))
    have := h n (by omega)
    have e : m * (n + 1) = m * n + m := Nat.mul_succ m n
    unfold ka_sm
    split <;> omega
/-- the set's number tells its items -/
theorem ka_M_bit {t : Nat → Bool} {j : Nat} : ∀ n, j < n → (ka_sm ka_p2 t n).testBit j = t j
  | 0, h => by omega
  | n + 1, h => by
    have hlt := ka_M_lt (t := t) n
    unfold ka_p2 at hlt
    unfold ka_sm
    by_cases e : j = n
    · subst e
      cases ht : t j
      · rw [if_neg (by decide)]
        exact Nat.testBit_lt_two_pow hlt
      · rw [if_pos rfl, Nat.add_comm]
        unfold ka_p2 at *
        rw [Nat.testBit_two_pow_add_eq, Nat.testBit_lt_two_pow hlt]
        rfl
    · cases ht : t n
      · rw [if_neg (by decide)]
        exact ka_M_bit n (by omega)
      · rw [if_pos rfl, Nat.add_comm]
        have ih := ka_M_bit (t := t) n (show j < n by omega)
        show (2 ^ n + _).testBit j = _
        rw [Nat.testBit_two_pow_add_gt (by omega)]
        exact ih
/-! PURE: the order by density, sorted and selected -/
noncomputable def ka_pl (P : Nat → Nat → Prop) (item : Nat) (o : Nat → Nat) : Nat → Nat
  | 0 => 0
  | p + 1 => @ite _ (P item (o p)) (Classical.propDecidable _) (ka_pl P item o p) (p + 1)
def ka_in (o : Nat → Nat) (p item : Nat) : Nat → Nat := fun q => if q < p then o q else if q = p then item else o (q - 1)
noncomputable def ka_srt (P : Nat → Nat → Prop) (fr : Nat → Bool) : Nat → (Nat → Nat) × Nat
  | 0 => (fun _ => 0, 0)
  | i + 1 => if fr i = true then (ka_in (ka_srt P fr i).1 (ka_pl P i (ka_srt P fr i).1 (ka_srt P fr i).2) i, (ka_srt P fr i).2 + 1) else ka_srt P fr i
/-- what comes first: the denser one, of equals the smaller, of equals the one with the smaller number -/
def ka_T (P : Nat → Nat → Prop) (i j : Nat) : Prop := P i j ∨ (¬ P j i ∧ i < j)
def ka_tr (P : Nat → Nat → Prop) (n : Nat) : Prop := (∀ i j k, i < n → j < n → k < n → ka_T P i j → ka_T P j k → ka_T P i k) ∧ (∀ i, i < n → ¬ P i i) ∧ (∀ i j, i < n → j < n → P i j → ¬ P j i)
theorem ka_pl_ok {P : Nat → Nat → Prop} {item : Nat} {o : Nat → Nat} : ∀ l, ka_pl P item o l ≤ l ∧ (∀ q, ka_pl P item o l ≤ q → q < l → P item (o q)) ∧ (0 < ka_pl P item o l → ¬ P item (o (ka_pl P item o l - 1)))
  | 0 => ⟨Nat.le_refl _, fun q _ h => by omega, fun h => by simp [ka_pl] at h⟩
  | l + 1 => by
    obtain ⟨h1, h2, h3⟩ := ka_pl_ok (P := P) (item := item) (o := o) l
    unfold ka_pl
    by_cases e : P item (o l)
    · rw [if_pos e]
      refine ⟨by omega, fun q hq hl => ?_, h3⟩
      by_cases eq : q = l
      · subst eq; exact e
      · exact h2 q hq (by omega)
    · rw [if_neg e]
      exact ⟨Nat.le_refl _, fun q hq hl => by omega, fun _ => e⟩
theorem ka_srt_ok {P : Nat → Nat → Prop} {fr : Nat → Bool} {n : Nat} (ht : ka_tr P n) : ∀ i, i ≤ n →
    (∀ q, q < (ka_srt P fr i).2 → (ka_srt P fr i).1 q < i ∧ fr ((ka_srt P fr i).1 q) = true) ∧ (∀ p q, p < q → q < (ka_srt P fr i).2 → ka_T P ((ka_srt P fr i).1 p) ((ka_srt P fr i).1 q)) ∧ (∀ j, j < i → fr j = true → ∃ q, q < (ka_srt P fr i).2 ∧ (ka_srt P fr i).1 q = j)
  | 0, _ => ⟨fun q h => by simp [ka_srt] at h, fun p q _ h => by simp [ka_srt] at h, fun j h => by omega⟩
  | i + 1, hi => by
    obtain ⟨h1, h2, h3⟩ := ka_srt_ok (fr := fr) ht i (by omega)
    unfold ka_srt
    generalize ka_srt P fr i = S at *
    obtain ⟨o, l⟩ := S
    dsimp only at *
    by_cases hf : fr i = true
    · rw [if_pos hf]
      dsimp only
      obtain ⟨g1, g2, g3⟩ := ka_pl_ok (P := P) (item := i) (o := o) l
      generalize ka_pl P i o l = p at *
      have hlow : ∀ q, q < p → ka_T P (o q) i := fun q hq => by
        have hl := h1 (p - 1) (by omega)
        have hpT : ka_T P (o (p - 1)) i := Or.inr ⟨g3 (by omega), hl.1⟩
        by_cases e : q = p - 1
        · subst e; exact hpT
        · have hq1 := h1 q (by omega)
          exact ht.1 _ _ _ (by omega) (by omega) (by omega) (h2 q (p - 1) (by omega) (by omega)) hpT
      have hin : ∀ q, ka_in o p i q = if q < p then o q else if q = p then i else o (q - 1) := fun q => rfl
      refine ⟨fun q hq => ?_, fun a b hab hb => ?_, fun j hj hfj => ?_⟩
      · rw [hin]
        split
        · have := h1 q (by omega)
          exact ⟨by omega, this.2⟩
        · split
          · exact ⟨by omega, hf⟩
          · have := h1 (q - 1) (by omega)
            exact ⟨by omega, this.2⟩
      · rw [hin, hin]
        by_cases e1 : b < p
        · rw [if_pos e1, if_pos (by omega)]
          exact h2 a b hab (by omega)
        · rw [if_neg e1]
          by_cases e2 : b = p
          · rw [if_pos e2, if_pos (by omega)]
            exact hlow a (by omega)
          · rw [if_neg e2]
            by_cases e3 : a < p
            · rw [if_pos e3]
              exact h2 a (b - 1) (by omega) (by omega)
            · rw [if_neg e3]
              by_cases e4 : a = p
              · rw [if_pos e4]
                exact Or.inl (g2 (b - 1) (by omega) (by omega))
              · rw [if_neg e4]
                exact h2 (a - 1) (b - 1) (by omega) (by omega)
      · by_cases e : j = i
        · subst e
          exact ⟨p, by omega, by rw [hin, if_neg (by omega), if_pos rfl]⟩
        · obtain ⟨q, q1, q2⟩ := h3 j (by omega) hfj
          by_cases e1 : q < p
          · exact ⟨q, by omega, by rw [hin, if_pos e1, q2]⟩
          · exact ⟨q + 1, by omega, by rw [hin, if_neg (by omega), if_neg (by omega), Nat.add_sub_cancel, q2]⟩
    · rw [if_neg hf]
      refine ⟨fun q hq => ⟨Nat.lt_succ_of_lt (h1 q hq).1, (h1 q hq).2⟩, h2, fun j hj hfj => ?_⟩
      by_cases e : j = i
      · subst e; exact absurd hfj hf
      · exact h3 j (by omega) hfj
/-- the first one among those asked -/
noncomputable def ka_dw (P : Nat → Nat → Prop) (ask : Nat → Bool) : Nat → Option Nat
  | 0 => none
  | i + 1 => if ask i = true then (match ka_dw P ask i with
      | none => some i
      | some b => @ite _ (P i b) (Classical.propDecidable _) (some i) (some b)) else ka_dw P ask i
theorem ka_dw_ok {P : Nat → Nat → Prop} {ask : Nat → Bool} {n : Nat} (ht : ka_tr P n) : ∀ i, i ≤ n → (ka_dw P ask i = none → ∀ j, j < i → ask j = false) ∧ (∀ m, ka_dw P ask i = some m → m < i ∧ ask m = true ∧ ∀ j, j < i → ask j = true → j ≠ m → ka_T P m j)
  | 0, _ => ⟨fun _ j h => by omega, fun m h => by cases h⟩
  | i + 1, hi => by
    obtain ⟨h1, h2⟩ := ka_dw_ok (ask := ask) ht i (by omega)
    unfold ka_dw
    by_cases ha : ask i = true
    · rw [if_pos ha]
      cases hd : ka_dw P ask i with
      | none =>
        refine ⟨(fun h => by cases h), fun m h => ?_⟩
        cases h
        exact ⟨by omega, ha, fun j hj haj hne => by have := h1 hd j (by omega); rw [haj] at this; cases this⟩
      | some b =>
        obtain ⟨b1, b2, b3⟩ := h2 b hd
        dsimp only
        by_cases e : P i b
        · rw [if_pos e]
          refine ⟨(fun h => by cases h), fun m h => ?_⟩
          cases h
          refine ⟨by omega, ha, fun j hj haj hne => ?_⟩
          by_cases ej : j = b
          · subst ej; exact Or.inl e
          · exact ht.1 _ _ _ (by omega) (by omega) (by omega) (Or.inl e) (b3 j (by omega) haj ej)
        · rw [if_neg e]
          refine ⟨(fun h => by cases h), fun m h => ?_⟩
          cases h
          refine ⟨by omega, b2, fun j hj haj hne => ?_⟩
          by_cases ej : j = i
          · subst ej; exact Or.inr ⟨e, b1⟩
          · exact b3 j (by omega) haj hne
    · rw [if_neg ha]
      refine ⟨fun h j hj => ?_, fun m h => ?_⟩
      · by_cases ej : j = i
        · subst ej; exact Bool.eq_false_iff.mpr ha
        · exact h1 h j (by omega)
      · obtain ⟨b1, b2, b3⟩ := h2 m h
        refine ⟨by omega, b2, fun j hj haj hne => ?_⟩
        by_cases ej : j = i
        · subst ej; exact absurd haj ha
        · exact b3 j (by omega) haj hne
theorem ka_T_as {P : Nat → Nat → Prop} {n i j : Nat} (ht : ka_tr P n) (hi : i < n) (hj : j < n) (h1 : ka_T P i j) (h2 : ka_T P j i) : False := by
  rcases h1 with h1 | ⟨h1, h1'⟩
  · rcases h2 with h2 | ⟨h2, h2'⟩
    · exact ht.2.2 i j hi hj h1 h2
    · exact h2 h1
  · rcases h2 with h2 | ⟨h2, h2'⟩
    · exact h1 h2
    · omega
/-- selecting goes through the sorted ones -/
theorem ka_sel {P : Nat → Nat → Prop} {fr : Nat → Bool} {n q : Nat} (ht : ka_tr P n) {seen : Nat → Bool} (hs : ∀ j, j < n → (seen j = true ↔ ∃ p, p < q ∧ (ka_srt P fr n).1 p = j)) (hq : q ≤ (ka_srt P fr n).2) :
    ka_dw P (fun j => fr j && !seen j) n = if q < (ka_srt P fr n).2 then some ((ka_srt P fr n).1 q) else none := by
  obtain ⟨h1, h2, h3⟩ := ka_srt_ok (fr := fr) ht n (Nat.le_refl _)
  obtain ⟨d1, d2⟩ := ka_dw_ok (ask := fun j => fr j && !seen j) ht n (Nat.le_refl _)
  generalize ka_srt P fr n = S at *
  obtain ⟨o, l⟩ := S
  dsimp only at *
  have irr : ∀ i, i < n → ¬ ka_T P i i := fun i hi z => z.elim (ht.2.1 i hi) (fun z => Nat.lt_irrefl _ z.2)
  have inj : ∀ p q, p < l → q < l → o p = o q → p = q := fun p q hp hq2 e => by
    rcases Nat.lt_trichotomy p q with z | z | z
    · have := h2 p q z hq2
      rw [e] at this
      exact (irr _ (h1 q hq2).1 this).elim
    · exact z
    · have := h2 q p z hp
      rw [e] at this
      exact (irr _ (h1 q hq2).1 this).elim
  have askq : ∀ k, k < l → ((fr (o k) && !seen (o k)) = true ↔ q ≤ k) := fun k hk => by
    obtain ⟨k1, k2⟩ := h1 k hk
    have hsk := hs (o k) k1
    constructor
    · intro h
      refine Nat.le_of_not_lt fun z => ?_
      have := hsk.mpr ⟨k, z, rfl⟩
      rw [this] at h
      simp at h
    · intro h
      have : seen (o k) = false := by
        cases e : seen (o k) with
        | false => rfl
        | true =>
          obtain ⟨p, p1, p2⟩ := hsk.mp e
          have := inj p k (by omega) hk p2
          omega
      rw [k2, this]
      rfl
  by_cases hl : q < l
  · rw [if_pos hl]
    have haq := (askq q hl).mpr (Nat.le_refl _)
    cases hd : ka_dw P (fun j => fr j && !seen j) n with
    | none =>
      have := d1 hd (o q) (h1 q hl).1
      rw [haq] at this
      cases this
    | some m =>
      obtain ⟨m1, m2, m3⟩ := d2 m hd
      have hfm : fr m = true := by
        cases e : fr m with
        | true => rfl
        | false => rw [e] at m2; cases m2
      obtain ⟨k, k1, k2⟩ := h3 m m1 hfm
      subst k2
      have hk := (askq k k1).mp m2
      by_cases e : k = q
      · rw [e]
      · have t1 := h2 q k (by omega) k1
        have t2 := m3 (o q) (h1 q hl).1 haq (fun z => e (inj k q k1 hl z.symm))
        exact (ka_T_as ht (h1 q hl).1 m1 t1 t2).elim
  · rw [if_neg hl]
    cases hd : ka_dw P (fun j => fr j && !seen j) n with
    | none => rfl
    | some m =>
      obtain ⟨m1, m2, m3⟩ := d2 m hd
      have hfm : fr m = true := by
        cases e : fr m with
        | true => rfl
        | false => rw [e] at m2; cases m2
      obtain ⟨k, k1, k2⟩ := h3 m m1 hfm
      subst k2
      have := (askq k k1).mp m2
      omega
/-- the densities' order -/
def ka_bf (w s : Nat → Nat) (i j : Nat) : Prop := w j * s i < w i * s j ∨ (w i * s j = w j * s i ∧ s i < s j)
theorem ka_x {a b c d e f : Nat} (hd : 0 < d) (h1 : a * d ≤ c * b) (h2 : c * f ≤ e * d) : a * f ≤ e * b := by
  have h3 : a * d * f ≤ c * b * f := Nat.mul_le_mul_right f h1
  have h4 : c * f * b ≤ e * d * b := Nat.mul_le_mul_right b h2
  have h5 : a * f * d ≤ e * b * d := by
    calc a * f * d = a * d * f := Nat.mul_right_comm a f d
      _ ≤ c * b * f := h3
      _ = c * f * b := Nat.mul_right_comm c b f
      _ ≤ e * d * b := h4
      _ = e * b * d := Nat.mul_right_comm e d b
  exact Nat.le_of_mul_le_mul_right h5 hd
theorem ka_xl {a b c d e f : Nat} (hb : 0 < b) (hd : 0 < d) (hf : 0 < f) (h1 : a * d ≤ c * b) (h2 : c * f ≤ e * d) (h : e * b ≤ a * f) : c * b ≤ a * d ∧ e * d ≤ c * f :=
  ⟨ka_x (a := c) (b := d) (c := e) (d := f) (e := a) (f := b) hf h2 h, ka_x (a := e) (b := f) (c := a) (d := b) (e := c) (f := d) hb h h1⟩
theorem ka_bf_tr {w s : Nat → Nat} {n : Nat} (hs : ∀ i, i < n → 0 < s i) : ka_tr (ka_bf w s) n := by
  have key : ∀ i j, ka_T (ka_bf w s) i j ↔ w j * s i ≤ w i * s j ∧ (w i * s j ≤ w j * s i → s i < s j ∨ (s i = s j ∧ i < j)) := fun i j => by
    unfold ka_T ka_bf
    constructor
    · rintro (h | ⟨h, hij⟩)
      · omega
      · rw [not_or, not_and] at h
        omega
    · rintro ⟨h1, h2⟩
      by_cases e : w i * s j ≤ w j * s i
      · rcases h2 e with h3 | ⟨h3, h4⟩
        · exact Or.inl (Or.inr ⟨by omega, h3⟩)
        · refine Or.inr ⟨fun z => ?_, h4⟩
          omega
      · exact Or.inl (Or.inl (by omega))
  refine ⟨fun i j k hi hj hk h1 h2 => ?_, fun i hi h => ?_, fun i j hi hj h1 h2 => ?_⟩
  · rw [key] at h1 h2 ⊢
    have c1 := ka_x (hs j hj) h2.1 h1.1
    refine ⟨c1, fun h => ?_⟩
    obtain ⟨q1, q2⟩ := ka_xl (hs k hk) (hs j hj) (hs i hi) h2.1 h1.1 h
    have r1 := h1.2 q2
    have r2 := h2.2 q1
    omega
  · unfold ka_bf at h; omega
  · unfold ka_bf at h1 h2; omega
