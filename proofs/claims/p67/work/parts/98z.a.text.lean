/-! THE LAW: the text that began makes, its words, its run -/
/-- the text's signs -/
def x_td (d i : Nat) : Int32 := if i < 5 then (s_byt.getD 12 []).getD i 0 else if i < 5 + x_dl d then (if d < 10 then nI (48 + d) else if i = 5 then nI (48 + d / 10) else nI (48 + d % 10)) else if i = 5 + x_dl d then 59 else 32
/-- .. as the builder has them -/
def x_t1 : Nat → Int32 := va_cpy (fun j => (s_byt.getD 12 []).getD j 0) (fun _ => 0) 0 0 (s_len.getD 12 0)
def x_t2 (d : Nat) : Nat → Int32 := x_dg x_t1 (0 + s_len.getD 12 0) d
def x_t3 (d : Nat) : Nat → Int32 := va_cpy (fun j => (s_byt.getD 13 []).getD j 0) (va_cpy (x_t2 d) (fun _ => 0) 0 0 16) 0 (0 + s_len.getD 12 0 + x_dl d) (s_len.getD 13 0)
def x_tl (d : Nat) : Nat := 0 + s_len.getD 12 0 + x_dl d + s_len.getD 13 0
def x_tf (d : Nat) : Nat → Int32 := va_cpy (x_t3 d) (fun _ => 0) 0 0 (x_tl d)
theorem k_f2 : ∀ d, d < 80 → ∀ j, j < 16 → fits .byte (.int (x_t2 d j)) = true := by decide +kernel
theorem k_f3 : ∀ d, d < 80 → ∀ j, j < 20 → fits .byte (.int (x_t3 d j)) = true := by decide +kernel
theorem k_tl : ∀ d, d < 80 → x_tl d < 20 ∧ (nI (0 + s_len.getD 12 0 + x_dl d + s_len.getD 13 0) = 18 ∨ nI (0 + s_len.getD 12 0 + x_dl d + s_len.getD 13 0) = 19) := by decide +kernel
theorem k_tf : ∀ d, d < 80 → ∀ i, i < 20 → (i < x_tl d → x_tf d i = x_td d i) ∧ (¬ i < x_tl d → (32 : Int32) = x_td d i) := by decide +kernel
theorem k_tc : ∀ d, d < 80 → ∀ i, i < 20 → ((x_td d i &&& 255).toUInt32 % 65536).toInt32 = x_td d i ∧ narrow .char (.int (x_td d i)) = .int (x_td d i) := by decide +kernel
/-- the shift for a sign -/
def x_sf (i : Nat) : Int32 := 24 - 8 * (nI i - nI i / 4 * 4)
def x_wf (d : Nat) : Nat → (Nat → Int32)
  | 0 => fun _ => 0
  | i + 1 => upd (x_wf d i) (i / 4) (x_wf d i (i / 4) ||| (x_td d i <<< (x_sf i &&& 31)))
theorem k_d4 : ∀ i, i < 20 → nI i / 4 = nI (i / 4) := by decide +kernel
theorem k_by : ∀ d, d < 80 → ∀ i, i < 20 → p_by (x_wf d 20 (i / 4) >>> (a_sh (i % 4) &&& 31)) = x_td d i := by decide +kernel
/-! a text that agrees -/
theorem x_sk_eq {tx ty : Nat → Int32} {len : Nat} (h : ∀ i, i < len → tx i = ty i) : ∀ r q, q + r ≤ len → x_sk tx r q = x_sk ty r q
  | 0, _, _ => rfl
  | r + 1, q, hq => by
    unfold x_sk
    rw [h q (by omega), x_sk_eq h r (q + 1) (by omega)]
theorem x_rn_eq {tx ty : Nat → Int32} {len : Nat} {k : Int32} (h : ∀ i, i < len → tx i = ty i) : ∀ r q, q + r ≤ len → x_rn tx k r q = x_rn ty k r q
  | 0, _, _ => rfl
  | r + 1, q, hq => by
    unfold x_rn
    rw [h q (by omega), x_rn_eq h r (q + 1) (by omega)]
theorem x_tok_eq {tx ty : Nat → Int32} {len q : Nat} (h : ∀ i, i < len → tx i = ty i) (hq : q ≤ len) : x_tok tx len q = x_tok ty len q := by
  unfold x_tok
  rw [x_sk_eq h _ _ (by omega)]
  generalize x_sk ty (len - q) q = t
  unfold x_at
  by_cases e : len ≤ t
  · rw [if_pos e, if_pos e]
  · rw [if_neg e, if_neg e, h t (by omega), x_rn_eq h (len - (t + 1)) (t + 1) (by omega)]
theorem x_mt_eq {tx ty : Nat → Int32} {len t i : Nat} (h : ∀ i, i < len → tx i = ty i) : ∀ r j, t + j + r ≤ len → x_mt tx t i r j = x_mt ty t i r j
  | 0, _, _ => rfl
  | r + 1, j, hq => by
    unfold x_mt
    rw [h (t + j) (by omega), x_mt_eq h r (j + 1) (by omega)]
theorem x_nm_eq {tx ty : Nat → Int32} {len : Nat} (h : ∀ i, i < len → tx i = ty i) : ∀ r p a, p + r ≤ len → x_nm tx r p a = x_nm ty r p a
  | 0, _, _, _ => rfl
  | r + 1, p, a, hq => by
    unfold x_nm
    rw [h p (by omega), x_nm_eq h r (p + 1) _ (by omega)]
theorem k_k1 : ∀ d, d < 80 → x_tok (x_td d) 20 0 = (4, 1, 0) ∧ x_mt (x_td d) 0 0 (s_len.getD 0 0) 0 = true := by decide +kernel
theorem k_k3 : ∀ d, d < 80 → x_tok (x_td d) 20 4 = (5 + x_dl d, 2, 5) ∧ x_nm (x_td d) (x_dl d) 5 0 = nI d ∧ ¬ (nI d < 0 ∨ 100 < nI d) ∧ ¬ nI d = -1 := by decide +kernel
theorem k_k5 : ∀ d, d < 80 → x_tok (x_td d) 20 (5 + x_dl d) = (6 + x_dl d, 59, 5 + x_dl d) ∧ x_tok (x_td d) 20 (6 + x_dl d) = (20, 0, 20) := by decide +kernel
/-- the text's run: it succeeds, with no item -/
theorem x_began {tx : Nat → Int32} {d : Nat} (hd : d < 80) (h : ∀ i, i < 20 → tx i = x_td d i) (σ : s_D) : (x_run tx 20 σ).1 = true ∧ (x_run tx 20 σ).2.1.2 0 = 0 := by
  have hl := x_dl_le d
  obtain ⟨a1, a2⟩ := k_k1 d hd
  obtain ⟨a3, a4, a5, a6⟩ := k_k3 d hd
  obtain ⟨a7, a8⟩ := k_k5 d hd
  have t0 : x_tok tx 20 0 = (4, 1, 0) := (x_tok_eq h (by omega)).trans a1
  have t4 : x_tok tx 20 4 = (5 + x_dl d, 2, 5) := (x_tok_eq h (by omega)).trans a3
  have t5 : x_tok tx 20 (5 + x_dl d) = (6 + x_dl d, 59, 5 + x_dl d) := (x_tok_eq h (by omega)).trans a7
  have t6 : x_tok tx 20 (6 + x_dl d) = (20, 0, 20) := (x_tok_eq h (by omega)).trans a8
  have hs : x_d1 tx 20 σ = (σ, 0, -1, 4, 1, 0, 0) := by
    unfold x_d1
    rw [t0]
  have hw : x_is tx 4 1 0 0 = true := by
    rw [x_is_mt rfl rfl, x_mt_eq h _ _ (by show 0 + 0 + s_len.getD 0 0 ≤ 20; decide)]
    exact a2
  have hr : x_rd tx 20 4 0 100 = (nI d, 0) := by
    unfold x_rd
    rw [t4]
    dsimp only
    rw [show 5 + x_dl d - 5 = x_dl d by omega, x_nm_eq h _ _ _ (by omega), a4, if_pos rfl, if_neg a5]
  have hn : x_num tx 20 0 100 (x_d1 tx 20 σ) = (σ, 0, -1, 5 + x_dl d, 2, 5, 0) := by
    rw [hs]
    unfold x_num
    dsimp only
    rw [hr]
    dsimp only
    rw [if_pos rfl]
    unfold x_next
    dsimp only
    rw [t4]
  have hx : x_next tx 20 (x_num tx 20 0 100 (x_d1 tx 20 σ)) = (σ, 0, -1, 6 + x_dl d, 59, 5 + x_dl d, 0) := by
    rw [hn]
    unfold x_next
    dsimp only
    rw [t5]
  have hd1 : x_dsk tx 20 σ = (true, (x_rst σ (nI d), 0, -1, 6 + x_dl d, 59, 5 + x_dl d, 0)) := by
    unfold x_dsk
    rw [hx, hs]
    dsimp only
    rw [if_pos hw, hr]
    dsimp only
    rw [if_neg a6, if_pos rfl]
  have hy : x_next tx 20 (x_rst σ (nI d), 0, -1, 6 + x_dl d, 59, 5 + x_dl d, 0) = (x_rst σ (nI d), 0, -1, 20, 0, 20, 0) := by
    unfold x_next
    dsimp only
    rw [t6]
  have hc : x_rc0 tx 20 (x_rst σ (nI d), 0, -1, 6 + x_dl d, 59, 5 + x_dl d, 0) = (true, (x_rst σ (nI d), 0, -1, 20, 0, 20, 0)) := by
    unfold x_rc0
    show x_rcF tx 20 (x_rp0 tx 20) _ (500 + 1) _ = _
    unfold x_rcF
    rw [hy]
    rfl
  unfold x_run
  rw [hd1]
  dsimp only
  rw [if_pos rfl, hc]
  exact ⟨rfl, rfl⟩
