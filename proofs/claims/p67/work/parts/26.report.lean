theorem s_b8 {n : Nat} (h : n < 128) : (nI n).toInt8.toInt32 = nI n := by
  have e : ∀ m, m < 128 → (nI m).toInt8.toInt32 = nI m := by decide +kernel
  exact e n h

/-! REPORT; HISTORY -/
def s_rep (h : s_H) (r : Nat) (L : List Int32) : Prop := h r = .inr (3, [.ref (r + 1), .int (nI L.length)]) ∧ L.length ≤ 1200 ∧ ∃ f : Nat → Int32, h (r + 1) = .inl (2, 1200, .inl f) ∧ ∀ q, q < L.length → f q = L.getD q 0
theorem s_rep.off {h h1 : s_H} {r a b : Nat} {L : List Int32} (q : s_rep h r L) (z : s_off h h1 a b) (hd : r + 2 ≤ a ∨ b ≤ r) : s_rep h1 r L := by
  obtain ⟨q0, q3, f, q1, q2⟩ := q
  exact ⟨(z _ (by omega)).trans q0, q3, f, (z _ (by omega)).trans q1, q2⟩
abbrev p_by (x : Int32) : Int32 := x.toInt8.toInt32.toInt8.toInt32
/-- the digits of v, from the k-th on -/
def p_dg (v : Nat) : Nat → List Int32
  | 0 => []
  | k + 1 => (if 10 ^ k ≤ v ∨ k = 0 then [nI (48 + v / 10 ^ k % 10)] else []) ++ p_dg v k
theorem p_dg_len (v : Nat) : ∀ k, (p_dg v k).length ≤ k
  | 0 => Nat.le_refl _
  | k + 1 => by
    have ih := p_dg_len v k
    rw [p_dg, List.length_append]
    split
    · simp only [List.length_singleton]; omega
    · simp only [List.length_nil]; omega
theorem p_by_small {d : Nat} (h : d < 128) : p_by (nI d) = nI d := by
  unfold p_by
  rw [s_b8 h, s_b8 h]
theorem p_dg_y {v k : Nat} (h : 10 ^ k ≤ v ∨ k = 0) : p_dg v (k + 1) = [nI (48 + v / 10 ^ k % 10)] ++ p_dg v k := by rw [p_dg, if_pos h]
theorem p_dg_n {v k : Nat} (h : ¬ (10 ^ k ≤ v ∨ k = 0)) : p_dg v (k + 1) = p_dg v k := by rw [p_dg, if_neg h, List.nil_append]
def p_at (L : List Int32) (x : Int32) : Int32 := if x < 0 ∨ nI L.length ≤ x then -1 else L.getD x.toNatClampNeg 0

theorem p_pow {k : Nat} (h : k < 7) : 10 ^ k < 2147483648 ∧ 0 < 10 ^ k := by
  have e : ∀ m, m < 7 → 10 ^ m < 2147483648 ∧ 0 < 10 ^ m := by decide +kernel
  exact e k h
theorem p_pow_div {k : Nat} (h : k < 6) : (nI (10 ^ (k + 1))) / 10 = nI (10 ^ k) := by
  have e : ∀ m, m < 6 → (nI (10 ^ (m + 1))) / 10 = nI (10 ^ m) := by decide +kernel
  exact e k h
theorem p_dig {v u : Nat} (hv : v < 2147483648) (hu : u < 2147483648) (h0 : 0 < u) : (48 : Int32) + (nI v / nI u - nI v / nI u / 10 * 10) = nI (48 + v / u % 10) := by
  have h1 : v / u < 2147483648 := Nat.lt_of_le_of_lt (Nat.div_le_self _ _) hv
  rw [pk_div hv h0 hu, show (10 : Int32) = nI 10 from rfl, pk_rem h1 (by decide) (by decide), show (48 : Int32) = nI 48 from rfl, nI_add]
