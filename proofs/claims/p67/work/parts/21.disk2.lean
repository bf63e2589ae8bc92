/-! DISK: what changes it -/
theorem g_copyi' {T : s_T} {Φ : s_P} {pc : Nat} {lv : s_V} {st : List Value} {h : s_H} {n kc ks : Nat} {a b la lb sp dp m9 : Nat} {x y z : Int32} {f g : Nat → Int32} {idx : Nat} (hd : decode T.2.1 pc = .ok (.invokestatic idx, 3)) (hw : Cond.methodLink T.1.cls idx arraycopyName ∈ s_WL ∧ Cond.native arraycopyName ∈ s_WL ∧ Cond.static arraycopyName ∈ s_WL ∧ Cond.initialized "java/lang/System" ∈ s_WL)
    (hoa : h a = .inl (0, la, .inl f)) (hob : h b = .inl (0, lb, .inl g)) (ha : a < n) (hb : b < n) (h1 : x = nI sp) (h2 : y = nI dp) (h3 : z = nI m9) (hs : sp + m9 ≤ la) (ht : dp + m9 ≤ lb) (hl : la < 2147483648 ∧ lb < 2147483648) (hc : (st.map fun v => v.category).sum ≤ 8)
    (k : ∀ h1, h1 = s_up h b (.inl (0, lb, .inl (va_cpy f g sp dp m9))) → s_G T Φ (pc + 3) lv st h1 n kc ks) : s_G T Φ pc lv (.int z :: .int y :: .ref b :: .int x :: .ref a :: st) h n kc ks := g_copyi hd hw hoa hob ha hb h1 h2 h3 hs ht hl hc (k _ rfl)
def d_mk (a b c d e : Int32) : Nat → Int32
  | 0 => a
  | 1 => b
  | 2 => c
  | 3 => d
  | _ => e
def d_cpy (τ σ : s_D) : s_D := (fun f => va_cpy (τ.1 f) (σ.1 f) 0 0 14, τ.2)
def d_add (σ : s_D) (cnt : Nat) (size value : Int32) : s_D := (fun f => match f with
  | 0 => upd (σ.1 0) cnt size
  | 1 => upd (σ.1 1) cnt value
  | 2 => upd (σ.1 2) cnt 0
  | 3 => upd (σ.1 3) cnt 0
  | f => σ.1 f, d_mk (nI (cnt + 1)) (σ.2 1) (σ.2 2) (σ.2 3) (σ.2 4))
def d_sh (g : Nat → Int32) (item b : Nat) : Nat → Int32 := fun x => if item ≤ x ∧ x + 1 < b then g (x + 1) else g x
theorem d_sh_step {g : Nat → Int32} {item j : Nat} (hj : item ≤ j) : upd (d_sh g item (j + 1)) j (d_sh g item (j + 1) (j + 1)) = d_sh g item (j + 2) := by
  funext x
  simp only [upd, d_sh]
  by_cases hx : x = j
  · subst hx
    rw [if_pos rfl, if_neg (show ¬ (item ≤ x + 1 ∧ x + 1 + 1 < x + 1) by omega), if_pos (show item ≤ x ∧ x + 1 < x + 2 by omega)]
  · rw [if_neg hx]
    by_cases h1 : item ≤ x ∧ x + 1 < j + 1
    · rw [if_pos h1, if_pos (show item ≤ x ∧ x + 1 < j + 2 by omega)]
    · rw [if_neg h1, if_neg (show ¬ (item ≤ x ∧ x + 1 < j + 2) by omega)]
theorem d_sh_0 {g : Nat → Int32} {item : Nat} : d_sh g item (item + 1) = g := by
  funext x
  simp only [d_sh]
  rw [if_neg (show ¬ (item ≤ x ∧ x + 1 < item + 1) by omega)]
def d_shf (σ : s_D) (item b : Nat) : s_D := (fun f => d_sh (σ.1 f) item b, σ.2)
def d_drop (σ : s_D) (item cnt : Nat) : s_D := (fun f => d_sh (σ.1 f) item cnt, d_mk (nI (cnt - 1)) (σ.2 1) (σ.2 2) (σ.2 3) (σ.2 4))
def d_kp (g : Nat → Int32) (set : Int32) (i : Nat) : Nat → Int32 := fun j => if j < i ∧ ¬ s_bit set (nI j) = 0 then 1 else g j
def d_kc (g : Nat → Int32) (set : Int32) : Nat → Nat
  | 0 => 0
  | i + 1 => if s_bit set (nI i) = 0 then d_kc g set i else if g i = 1 then d_kc g set i else d_kc g set i + 1
def d_kps (σ : s_D) (set : Int32) (i : Nat) : s_D := (fun f => match f with
  | 0 => σ.1 0
  | 1 => σ.1 1
  | 2 => σ.1 2
  | 3 => d_kp (σ.1 3) set i
  | f => σ.1 f, σ.2)
theorem d_kp_at {g : Nat → Int32} {set : Int32} {i : Nat} : d_kp g set i i = g i := by simp [d_kp]
theorem d_kp_0 {g : Nat → Int32} {set : Int32} : d_kp g set 0 = g := by funext j; simp [d_kp]
theorem d_kp_n {g : Nat → Int32} {set : Int32} {i : Nat} (h : s_bit set (nI i) = 0 ∨ g i = 1) : d_kp g set (i + 1) = d_kp g set i := by
  funext j
  by_cases hj : j = i
  · subst hj
    rcases h with h | h <;> simp [d_kp, h]
  · have : j < i + 1 ↔ j < i := by omega
    simp [d_kp, this]
theorem d_kp_y {g : Nat → Int32} {set : Int32} {i : Nat} (h : ¬ s_bit set (nI i) = 0) : upd (d_kp g set i) i 1 = d_kp g set (i + 1) := by
  funext j
  by_cases hj : j = i
  · subst hj
    simp [d_kp, upd, h]
  · have : j < i + 1 ↔ j < i := by omega
    simp [d_kp, upd, hj, this]
def d_room (σ : s_D) (cnt : Nat) : Int32 := σ.2 1 - d_tot (σ.1 0) (d_set σ 1 cnt) cnt

theorem cpX2_40 : Cond.methodLink RX2 40 arraycopyName ∈ s_WL ∧ Cond.native arraycopyName ∈ s_WL ∧ Cond.static arraycopyName ∈ s_WL ∧ Cond.initialized "java/lang/System" ∈ s_WL := ⟨s_WL_of 754 (by decide +kernel) rfl, s_WL_of 338 (by decide +kernel) rfl, s_WL_of 337 (by decide +kernel) rfl, s_WL_of 40 (by decide +kernel) rfl⟩
theorem c_X2_reset {h : s_H} {n d : Nat} {σ : s_D} (hD : s_disk h d σ) (hn : d + 4 < n) (cap : Int32) : s_Mt TX2_reset 0 0 [.ref d, .int cap] h n (s_rp n (fun r h1 => r = none ∧ s_disk h1 d (σ.1, d_mk 0 cap 0 0 0) ∧ s_off h h1 d (d + 5)) s_no) := by
  obtain ⟨hd, q1, q2, q3, q4⟩ := hD
  refine s_Mt_of rfl (by decide) (by exact Nat.le_of_ble_eq_true rfl) ?_
  refine g_aload_n dX2_reset_0 rfl (by rfl) ?_
  refine g_iconst 0 dX2_reset_1 (by rfl) ?_
  refine g_putf' dX2_reset_2 pX2_24 (by exact hd) (by omega) (by exact Nat.le_of_ble_eq_true rfl) (by rfl) (by rfl) (fun h1 e1 => ?_)
  first | have hd_1 := s_up_off e1 (by omega) hd | have hd_1 := s_up_at e1
  first | have q1_1 := s_up_off e1 (by omega) q1 | have q1_1 := s_up_at e1
  first | have q2_1 := s_up_off e1 (by omega) q2 | have q2_1 := s_up_at e1
  first | have q3_1 := s_up_off e1 (by omega) q3 | have q3_1 := s_up_at e1
  first | have q4_1 := s_up_off e1 (by omega) q4 | have q4_1 := s_up_at e1
  refine g_aload_n dX2_reset_5 rfl (by rfl) ?_
  refine g_iload_n dX2_reset_6 rfl (by rfl) ?_
  refine g_putf' dX2_reset_7 pX2_28 (by exact hd_1) (by omega) (by exact Nat.le_of_ble_eq_true rfl) (by rfl) (by rfl) (fun h2 e2 => ?_)
  first | have hd_2 := s_up_off e2 (by omega) hd_1 | have hd_2 := s_up_at e2
  first | have q1_2 := s_up_off e2 (by omega) q1_1 | have q1_2 := s_up_at e2
  first | have q2_2 := s_up_off e2 (by omega) q2_1 | have q2_2 := s_up_at e2
  first | have q3_2 := s_up_off e2 (by omega) q3_1 | have q3_2 := s_up_at e2
  first | have q4_2 := s_up_off e2 (by omega) q4_1 | have q4_2 := s_up_at e2
  refine g_aload_n dX2_reset_10 rfl (by rfl) ?_
  refine g_iconst 0 dX2_reset_11 (by rfl) ?_
  refine g_putf' dX2_reset_12 pX2_31 (by exact hd_2) (by omega) (by exact Nat.le_of_ble_eq_true rfl) (by rfl) (by rfl) (fun h3 e3 => ?_)
  first | have hd_3 := s_up_off e3 (by omega) hd_2 | have hd_3 := s_up_at e3
  first | have q1_3 := s_up_off e3 (by omega) q1_2 | have q1_3 := s_up_at e3
  first | have q2_3 := s_up_off e3 (by omega) q2_2 | have q2_3 := s_up_at e3
  first | have q3_3 := s_up_off e3 (by omega) q3_2 | have q3_3 := s_up_at e3
  first | have q4_3 := s_up_off e3 (by omega) q4_2 | have q4_3 := s_up_at e3
  refine g_aload_n dX2_reset_15 rfl (by rfl) ?_
  refine g_iconst 0 dX2_reset_16 (by rfl) ?_
  refine g_putf' dX2_reset_17 pX2_34 (by exact hd_3) (by omega) (by exact Nat.le_of_ble_eq_true rfl) (by rfl) (by rfl) (fun h4 e4 => ?_)
  first | have hd_4 := s_up_off e4 (by omega) hd_3 | have hd_4 := s_up_at e4
  first | have q1_4 := s_up_off e4 (by omega) q1_3 | have q1_4 := s_up_at e4
  first | have q2_4 := s_up_off e4 (by omega) q2_3 | have q2_4 := s_up_at e4
  first | have q3_4 := s_up_off e4 (by omega) q3_3 | have q3_4 := s_up_at e4
  first | have q4_4 := s_up_off e4 (by omega) q4_3 | have q4_4 := s_up_at e4
  refine g_aload_n dX2_reset_20 rfl (by rfl) ?_
  refine g_iconst 0 dX2_reset_21 (by rfl) ?_
  refine g_putf' dX2_reset_22 pX2_37 (by exact hd_4) (by omega) (by exact Nat.le_of_ble_eq_true rfl) (by rfl) (by rfl) (fun h5 e5 => ?_)
  first | have hd_5 := s_up_off e5 (by omega) hd_4 | have hd_5 := s_up_at e5
  first | have q1_5 := s_up_off e5 (by omega) q1_4 | have q1_5 := s_up_at e5
  first | have q2_5 := s_up_off e5 (by omega) q2_4 | have q2_5 := s_up_at e5
  first | have q3_5 := s_up_off e5 (by omega) q3_4 | have q3_5 := s_up_at e5
  first | have q4_5 := s_up_off e5 (by omega) q4_4 | have q4_5 := s_up_at e5
  refine g_vreturn dX2_reset_25 rfl ?_
  exact ⟨rfl, rfl, ⟨hd_5, q1_5, q2_5, q3_5, q4_5⟩, ((((((s_off.rf (a := d) (b := d + 5)).up e1 (by omega)).up e2 (by omega)).up e3 (by omega)).up e4 (by omega)).up e5 (by omega))⟩

theorem c_X2_copyFrom {h : s_H} {n d o : Nat} {σ τ : s_D} (hD : s_disk h d σ) (hO : s_disk h o τ) (hn : d + 4 < n) (hno : o + 4 < n) (hdo : d + 5 ≤ o ∨ o + 5 ≤ d) : s_Mt TX2_copyFrom 0 0 [.ref d, .ref o] h n (s_rp n (fun r h1 => r = none ∧ s_disk h1 d (d_cpy τ σ) ∧ s_off h h1 d (d + 5)) s_no) := by
  obtain ⟨hd, q1, q2, q3, q4⟩ := hD
  obtain ⟨ho, p1, p2, p3, p4⟩ := hO
  refine s_Mt_of rfl (by decide) (by exact Nat.le_of_ble_eq_true rfl) ?_
  refine g_aload_n dX2_copyFrom_0 rfl (by rfl) ?_
  refine g_getf dX2_copyFrom_1 fX2_9 (by first | exact hd | exact ho) (by omega) (by rfl) ?_
  refine g_iconst 0 dX2_copyFrom_4 (by rfl) ?_
  refine g_aload_n dX2_copyFrom_5 rfl (by rfl) ?_
  refine g_getf dX2_copyFrom_6 fX2_9 (by first | exact hd | exact ho) (by omega) (by rfl) ?_
  refine g_iconst 0 dX2_copyFrom_9 (by rfl) ?_
  refine g_bipush 14 dX2_copyFrom_10 (by rfl) ?_
  refine g_copyi' (sp := 0) (dp := 0) (m9 := 14) dX2_copyFrom_12 cpX2_40 (by first | exact q1 | exact q2 | exact q3 | exact q4 | exact p1 | exact p2 | exact p3 | exact p4) (by first | exact q1 | exact q2 | exact q3 | exact q4 | exact p1 | exact p2 | exact p3 | exact p4) (by omega) (by omega) rfl rfl rfl (by omega) (by omega) (by omega) (Nat.le_of_ble_eq_true rfl) (fun h1 e1 => ?_)
  first | have hd_1 := s_up_off e1 (by omega) hd | have hd_1 := s_up_at e1
  first | have ho_1 := s_up_off e1 (by omega) ho | have ho_1 := s_up_at e1
  first | have q1_1 := s_up_off e1 (by omega) q1 | have q1_1 := s_up_at e1
  first | have q2_1 := s_up_off e1 (by omega) q2 | have q2_1 := s_up_at e1
  first | have q3_1 := s_up_off e1 (by omega) q3 | have q3_1 := s_up_at e1
  first | have q4_1 := s_up_off e1 (by omega) q4 | have q4_1 := s_up_at e1
  first | have p1_1 := s_up_off e1 (by omega) p1 | have p1_1 := s_up_at e1
  first | have p2_1 := s_up_off e1 (by omega) p2 | have p2_1 := s_up_at e1
  first | have p3_1 := s_up_off e1 (by omega) p3 | have p3_1 := s_up_at e1
  first | have p4_1 := s_up_off e1 (by omega) p4 | have p4_1 := s_up_at e1
  refine g_aload_n dX2_copyFrom_15 rfl (by rfl) ?_
  refine g_getf dX2_copyFrom_16 fX2_15 (by first | exact hd_1 | exact ho_1) (by omega) (by rfl) ?_
  refine g_iconst 0 dX2_copyFrom_19 (by rfl) ?_
  refine g_aload_n dX2_copyFrom_20 rfl (by rfl) ?_
  refine g_getf dX2_copyFrom_21 fX2_15 (by first | exact hd_1 | exact ho_1) (by omega) (by rfl) ?_
  refine g_iconst 0 dX2_copyFrom_24 (by rfl) ?_
  refine g_bipush 14 dX2_copyFrom_25 (by rfl) ?_
  refine g_copyi' (sp := 0) (dp := 0) (m9 := 14) dX2_copyFrom_27 cpX2_40 (by first | exact q1_1 | exact q2_1 | exact q3_1 | exact q4_1 | exact p1_1 | exact p2_1 | exact p3_1 | exact p4_1) (by first | exact q1_1 | exact q2_1 | exact q3_1 | exact q4_1 | exact p1_1 | exact p2_1 | exact p3_1 | exact p4_1) (by omega) (by omega) rfl rfl rfl (by omega) (by omega) (by omega) (Nat.le_of_ble_eq_true rfl) (fun h2 e2 => ?_)
  first | have hd_2 := s_up_off e2 (by omega) hd_1 | have hd_2 := s_up_at e2
  first | have ho_2 := s_up_off e2 (by omega) ho_1 | have ho_2 := s_up_at e2
  first | have q1_2 := s_up_off e2 (by omega) q1_1 | have q1_2 := s_up_at e2
  first | have q2_2 := s_up_off e2 (by omega) q2_1 | have q2_2 := s_up_at e2
  first | have q3_2 := s_up_off e2 (by omega) q3_1 | have q3_2 := s_up_at e2
  first | have q4_2 := s_up_off e2 (by omega) q4_1 | have q4_2 := s_up_at e2
  first | have p1_2 := s_up_off e2 (by omega) p1_1 | have p1_2 := s_up_at e2
  first | have p2_2 := s_up_off e2 (by omega) p2_1 | have p2_2 := s_up_at e2
  first | have p3_2 := s_up_off e2 (by omega) p3_1 | have p3_2 := s_up_at e2
  first | have p4_2 := s_up_off e2 (by omega) p4_1 | have p4_2 := s_up_at e2
  refine g_aload_n dX2_copyFrom_30 rfl (by rfl) ?_
  refine g_getf dX2_copyFrom_31 fX2_18 (by first | exact hd_2 | exact ho_2) (by omega) (by rfl) ?_
  refine g_iconst 0 dX2_copyFrom_34 (by rfl) ?_
  refine g_aload_n dX2_copyFrom_35 rfl (by rfl) ?_
  refine g_getf dX2_copyFrom_36 fX2_18 (by first | exact hd_2 | exact ho_2) (by omega) (by rfl) ?_
  refine g_iconst 0 dX2_copyFrom_39 (by rfl) ?_
  refine g_bipush 14 dX2_copyFrom_40 (by rfl) ?_
  refine g_copyi' (sp := 0) (dp := 0) (m9 := 14) dX2_copyFrom_42 cpX2_40 (by first | exact q1_2 | exact q2_2 | exact q3_2 | exact q4_2 | exact p1_2 | exact p2_2 | exact p3_2 | exact p4_2) (by first | exact q1_2 | exact q2_2 | exact q3_2 | exact q4_2 | exact p1_2 | exact p2_2 | exact p3_2 | exact p4_2) (by omega) (by omega) rfl rfl rfl (by omega) (by omega) (by omega) (Nat.le_of_ble_eq_true rfl) (fun h3 e3 => ?_)
  first | have hd_3 := s_up_off e3 (by omega) hd_2 | have hd_3 := s_up_at e3
  first | have ho_3 := s_up_off e3 (by omega) ho_2 | have ho_3 := s_up_at e3
  first | have q1_3 := s_up_off e3 (by omega) q1_2 | have q1_3 := s_up_at e3
  first | have q2_3 := s_up_off e3 (by omega) q2_2 | have q2_3 := s_up_at e3
  first | have q3_3 := s_up_off e3 (by omega) q3_2 | have q3_3 := s_up_at e3
  first | have q4_3 := s_up_off e3 (by omega) q4_2 | have q4_3 := s_up_at e3
  first | have p1_3 := s_up_off e3 (by omega) p1_2 | have p1_3 := s_up_at e3
  first | have p2_3 := s_up_off e3 (by omega) p2_2 | have p2_3 := s_up_at e3
  first | have p3_3 := s_up_off e3 (by omega) p3_2 | have p3_3 := s_up_at e3
  first | have p4_3 := s_up_off e3 (by omega) p4_2 | have p4_3 := s_up_at e3
  refine g_aload_n dX2_copyFrom_45 rfl (by rfl) ?_
  refine g_getf dX2_copyFrom_46 fX2_21 (by first | exact hd_3 | exact ho_3) (by omega) (by rfl) ?_
  refine g_iconst 0 dX2_copyFrom_49 (by rfl) ?_
  refine g_aload_n dX2_copyFrom_50 rfl (by rfl) ?_
  refine g_getf dX2_copyFrom_51 fX2_21 (by first | exact hd_3 | exact ho_3) (by omega) (by rfl) ?_
  refine g_iconst 0 dX2_copyFrom_54 (by rfl) ?_
  refine g_bipush 14 dX2_copyFrom_55 (by rfl) ?_
  refine g_copyi' (sp := 0) (dp := 0) (m9 := 14) dX2_copyFrom_57 cpX2_40 (by first | exact q1_3 | exact q2_3 | exact q3_3 | exact q4_3 | exact p1_3 | exact p2_3 | exact p3_3 | exact p4_3) (by first | exact q1_3 | exact q2_3 | exact q3_3 | exact q4_3 | exact p1_3 | exact p2_3 | exact p3_3 | exact p4_3) (by omega) (by omega) rfl rfl rfl (by omega) (by omega) (by omega) (Nat.le_of_ble_eq_true rfl) (fun h4 e4 => ?_)
  first | have hd_4 := s_up_off e4 (by omega) hd_3 | have hd_4 := s_up_at e4
  first | have ho_4 := s_up_off e4 (by omega) ho_3 | have ho_4 := s_up_at e4
  first | have q1_4 := s_up_off e4 (by omega) q1_3 | have q1_4 := s_up_at e4
  first | have q2_4 := s_up_off e4 (by omega) q2_3 | have q2_4 := s_up_at e4
  first | have q3_4 := s_up_off e4 (by omega) q3_3 | have q3_4 := s_up_at e4
  first | have q4_4 := s_up_off e4 (by omega) q4_3 | have q4_4 := s_up_at e4
  first | have p1_4 := s_up_off e4 (by omega) p1_3 | have p1_4 := s_up_at e4
  first | have p2_4 := s_up_off e4 (by omega) p2_3 | have p2_4 := s_up_at e4
  first | have p3_4 := s_up_off e4 (by omega) p3_3 | have p3_4 := s_up_at e4
  first | have p4_4 := s_up_off e4 (by omega) p4_3 | have p4_4 := s_up_at e4
  refine g_aload_n dX2_copyFrom_60 rfl (by rfl) ?_
  refine g_aload_n dX2_copyFrom_61 rfl (by rfl) ?_
  refine g_getf dX2_copyFrom_62 fX2_24 (by first | exact hd_4 | exact ho_4) (by omega) (by rfl) ?_
  refine g_putf' dX2_copyFrom_65 pX2_24 (by first | exact hd_4 | exact ho_4) (by omega) (by exact Nat.le_of_ble_eq_true rfl) (by rfl) (by rfl) (fun h5 e5 => ?_)
  first | have hd_5 := s_up_off e5 (by omega) hd_4 | have hd_5 := s_up_at e5
  first | have ho_5 := s_up_off e5 (by omega) ho_4 | have ho_5 := s_up_at e5
  first | have q1_5 := s_up_off e5 (by omega) q1_4 | have q1_5 := s_up_at e5
  first | have q2_5 := s_up_off e5 (by omega) q2_4 | have q2_5 := s_up_at e5
  first | have q3_5 := s_up_off e5 (by omega) q3_4 | have q3_5 := s_up_at e5
  first | have q4_5 := s_up_off e5 (by omega) q4_4 | have q4_5 := s_up_at e5
  first | have p1_5 := s_up_off e5 (by omega) p1_4 | have p1_5 := s_up_at e5
  first | have p2_5 := s_up_off e5 (by omega) p2_4 | have p2_5 := s_up_at e5
  first | have p3_5 := s_up_off e5 (by omega) p3_4 | have p3_5 := s_up_at e5
  first | have p4_5 := s_up_off e5 (by omega) p4_4 | have p4_5 := s_up_at e5
  refine g_aload_n dX2_copyFrom_68 rfl (by rfl) ?_
  refine g_aload_n dX2_copyFrom_69 rfl (by rfl) ?_
  refine g_getf dX2_copyFrom_70 fX2_28 (by first | exact hd_5 | exact ho_5) (by omega) (by rfl) ?_
  refine g_putf' dX2_copyFrom_73 pX2_28 (by first | exact hd_5 | exact ho_5) (by omega) (by exact Nat.le_of_ble_eq_true rfl) (by rfl) (by rfl) (fun h6 e6 => ?_)
  first | have hd_6 := s_up_off e6 (by omega) hd_5 | have hd_6 := s_up_at e6
  first | have ho_6 := s_up_off e6 (by omega) ho_5 | have ho_6 := s_up_at e6
  first | have q1_6 := s_up_off e6 (by omega) q1_5 | have q1_6 := s_up_at e6
  first | have q2_6 := s_up_off e6 (by omega) q2_5 | have q2_6 := s_up_at e6
  first | have q3_6 := s_up_off e6 (by omega) q3_5 | have q3_6 := s_up_at e6
  first | have q4_6 := s_up_off e6 (by omega) q4_5 | have q4_6 := s_up_at e6
  first | have p1_6 := s_up_off e6 (by omega) p1_5 | have p1_6 := s_up_at e6
  first | have p2_6 := s_up_off e6 (by omega) p2_5 | have p2_6 := s_up_at e6
  first | have p3_6 := s_up_off e6 (by omega) p3_5 | have p3_6 := s_up_at e6
  first | have p4_6 := s_up_off e6 (by omega) p4_5 | have p4_6 := s_up_at e6
  refine g_aload_n dX2_copyFrom_76 rfl (by rfl) ?_
  refine g_aload_n dX2_copyFrom_77 rfl (by rfl) ?_
  refine g_getf dX2_copyFrom_78 fX2_31 (by first | exact hd_6 | exact ho_6) (by omega) (by rfl) ?_
  refine g_putf' dX2_copyFrom_81 pX2_31 (by first | exact hd_6 | exact ho_6) (by omega) (by exact Nat.le_of_ble_eq_true rfl) (by rfl) (by rfl) (fun h7 e7 => ?_)
  first | have hd_7 := s_up_off e7 (by omega) hd_6 | have hd_7 := s_up_at e7
  first | have ho_7 := s_up_off e7 (by omega) ho_6 | have ho_7 := s_up_at e7
  first | have q1_7 := s_up_off e7 (by omega) q1_6 | have q1_7 := s_up_at e7
  first | have q2_7 := s_up_off e7 (by omega) q2_6 | have q2_7 := s_up_at e7
  first | have q3_7 := s_up_off e7 (by omega) q3_6 | have q3_7 := s_up_at e7
  first | have q4_7 := s_up_off e7 (by omega) q4_6 | have q4_7 := s_up_at e7
  first | have p1_7 := s_up_off e7 (by omega) p1_6 | have p1_7 := s_up_at e7
  first | have p2_7 := s_up_off e7 (by omega) p2_6 | have p2_7 := s_up_at e7
  first | have p3_7 := s_up_off e7 (by omega) p3_6 | have p3_7 := s_up_at e7
  first | have p4_7 := s_up_off e7 (by omega) p4_6 | have p4_7 := s_up_at e7
  refine g_aload_n dX2_copyFrom_84 rfl (by rfl) ?_
  refine g_aload_n dX2_copyFrom_85 rfl (by rfl) ?_
  refine g_getf dX2_copyFrom_86 fX2_34 (by first | exact hd_7 | exact ho_7) (by omega) (by rfl) ?_
  refine g_putf' dX2_copyFrom_89 pX2_34 (by first | exact hd_7 | exact ho_7) (by omega) (by exact Nat.le_of_ble_eq_true rfl) (by rfl) (by rfl) (fun h8 e8 => ?_)
  first | have hd_8 := s_up_off e8 (by omega) hd_7 | have hd_8 := s_up_at e8
  first | have ho_8 := s_up_off e8 (by omega) ho_7 | have ho_8 := s_up_at e8
  first | have q1_8 := s_up_off e8 (by omega) q1_7 | have q1_8 := s_up_at e8
  first | have q2_8 := s_up_off e8 (by omega) q2_7 | have q2_8 := s_up_at e8
  first | have q3_8 := s_up_off e8 (by omega) q3_7 | have q3_8 := s_up_at e8
  first | have q4_8 := s_up_off e8 (by omega) q4_7 | have q4_8 := s_up_at e8
  first | have p1_8 := s_up_off e8 (by omega) p1_7 | have p1_8 := s_up_at e8
  first | have p2_8 := s_up_off e8 (by omega) p2_7 | have p2_8 := s_up_at e8
  first | have p3_8 := s_up_off e8 (by omega) p3_7 | have p3_8 := s_up_at e8
  first | have p4_8 := s_up_off e8 (by omega) p4_7 | have p4_8 := s_up_at e8
  refine g_aload_n dX2_copyFrom_92 rfl (by rfl) ?_
  refine g_aload_n dX2_copyFrom_93 rfl (by rfl) ?_
  refine g_getf dX2_copyFrom_94 fX2_37 (by first | exact hd_8 | exact ho_8) (by omega) (by rfl) ?_
  refine g_putf' dX2_copyFrom_97 pX2_37 (by first | exact hd_8 | exact ho_8) (by omega) (by exact Nat.le_of_ble_eq_true rfl) (by rfl) (by rfl) (fun h9 e9 => ?_)
  first | have hd_9 := s_up_off e9 (by omega) hd_8 | have hd_9 := s_up_at e9
  first | have ho_9 := s_up_off e9 (by omega) ho_8 | have ho_9 := s_up_at e9
  first | have q1_9 := s_up_off e9 (by omega) q1_8 | have q1_9 := s_up_at e9
  first | have q2_9 := s_up_off e9 (by omega) q2_8 | have q2_9 := s_up_at e9
  first | have q3_9 := s_up_off e9 (by omega) q3_8 | have q3_9 := s_up_at e9
  first | have q4_9 := s_up_off e9 (by omega) q4_8 | have q4_9 := s_up_at e9
  first | have p1_9 := s_up_off e9 (by omega) p1_8 | have p1_9 := s_up_at e9
  first | have p2_9 := s_up_off e9 (by omega) p2_8 | have p2_9 := s_up_at e9
  first | have p3_9 := s_up_off e9 (by omega) p3_8 | have p3_9 := s_up_at e9
  first | have p4_9 := s_up_off e9 (by omega) p4_8 | have p4_9 := s_up_at e9
  refine g_vreturn dX2_copyFrom_100 rfl ?_
  exact ⟨rfl, rfl, ⟨hd_9, q1_9, q2_9, q3_9, q4_9⟩, ((((((((((s_off.rf (a := d) (b := d + 5)).up e1 (by omega)).up e2 (by omega)).up e3 (by omega)).up e4 (by omega)).up e5 (by omega)).up e6 (by omega)).up e7 (by omega)).up e8 (by omega)).up e9 (by omega))⟩

theorem c_X2_add {h : s_H} {n d cnt : Nat} {σ : s_D} (hD : s_disk h d σ) (hn : d + 4 < n) (hc : σ.2 0 = nI cnt) (hc14 : cnt < 14) (size value : Int32) : s_Mt TX2_add 0 0 [.ref d, .int size, .int value] h n (s_rp n (fun r h1 => r = none ∧ s_disk h1 d (d_add σ cnt size value) ∧ s_off h h1 d (d + 5)) s_no) := by
  obtain ⟨hd, q1, q2, q3, q4⟩ := hD
  rw [hc] at hd
  refine s_Mt_of rfl (by decide) (by exact Nat.le_of_ble_eq_true rfl) ?_
  refine g_aload_n dX2_add_0 rfl (by rfl) ?_
  refine g_getf dX2_add_1 fX2_24 (by exact hd) (by omega) (by rfl) ?_
  refine g_bipush 14 dX2_add_4 (by rfl) ?_
  refine g_icmp_ge (tgt := 59) dX2_add_6 (by decide) (fun c_6 => absurd c_6 (nI_ge (a := cnt) (b := 14) (by omega) (by omega))) (fun _ => ?_)
  refine g_aload_n dX2_add_9 rfl (by rfl) ?_
  refine g_getf dX2_add_10 fX2_9 (by exact hd) (by omega) (by rfl) ?_
  refine g_aload_n dX2_add_13 rfl (by rfl) ?_
  refine g_getf dX2_add_14 fX2_24 (by exact hd) (by omega) (by rfl) ?_
  refine g_iload_n dX2_add_17 rfl (by rfl) ?_
  refine g_iast' dX2_add_18 (by first | exact q1 | exact q2 | exact q3 | exact q4) (by omega) (by rfl) (by omega) (by omega) (fun h1 e1 => ?_)
  first | have hd_1 := s_up_off e1 (by omega) hd | have hd_1 := s_up_at e1
  first | have q1_1 := s_up_off e1 (by omega) q1 | have q1_1 := s_up_at e1
  first | have q2_1 := s_up_off e1 (by omega) q2 | have q2_1 := s_up_at e1
  first | have q3_1 := s_up_off e1 (by omega) q3 | have q3_1 := s_up_at e1
  first | have q4_1 := s_up_off e1 (by omega) q4 | have q4_1 := s_up_at e1
  refine g_aload_n dX2_add_19 rfl (by rfl) ?_
  refine g_getf dX2_add_20 fX2_15 (by exact hd_1) (by omega) (by rfl) ?_
  refine g_aload_n dX2_add_23 rfl (by rfl) ?_
  refine g_getf dX2_add_24 fX2_24 (by exact hd_1) (by omega) (by rfl) ?_
  refine g_iload_n dX2_add_27 rfl (by rfl) ?_
  refine g_iast' dX2_add_28 (by first | exact q1_1 | exact q2_1 | exact q3_1 | exact q4_1) (by omega) (by rfl) (by omega) (by omega) (fun h2 e2 => ?_)
  first | have hd_2 := s_up_off e2 (by omega) hd_1 | have hd_2 := s_up_at e2
  first | have q1_2 := s_up_off e2 (by omega) q1_1 | have q1_2 := s_up_at e2
  first | have q2_2 := s_up_off e2 (by omega) q2_1 | have q2_2 := s_up_at e2
  first | have q3_2 := s_up_off e2 (by omega) q3_1 | have q3_2 := s_up_at e2
  first | have q4_2 := s_up_off e2 (by omega) q4_1 | have q4_2 := s_up_at e2
  refine g_aload_n dX2_add_29 rfl (by rfl) ?_
  refine g_getf dX2_add_30 fX2_18 (by exact hd_2) (by omega) (by rfl) ?_
  refine g_aload_n dX2_add_33 rfl (by rfl) ?_
  refine g_getf dX2_add_34 fX2_24 (by exact hd_2) (by omega) (by rfl) ?_
  refine g_iconst 0 dX2_add_37 (by rfl) ?_
  refine g_iast' dX2_add_38 (by first | exact q1_2 | exact q2_2 | exact q3_2 | exact q4_2) (by omega) (by rfl) (by omega) (by omega) (fun h3 e3 => ?_)
  first | have hd_3 := s_up_off e3 (by omega) hd_2 | have hd_3 := s_up_at e3
  first | have q1_3 := s_up_off e3 (by omega) q1_2 | have q1_3 := s_up_at e3
  first | have q2_3 := s_up_off e3 (by omega) q2_2 | have q2_3 := s_up_at e3
  first | have q3_3 := s_up_off e3 (by omega) q3_2 | have q3_3 := s_up_at e3
  first | have q4_3 := s_up_off e3 (by omega) q4_2 | have q4_3 := s_up_at e3
  refine g_aload_n dX2_add_39 rfl (by rfl) ?_
  refine g_getf dX2_add_40 fX2_21 (by exact hd_3) (by omega) (by rfl) ?_
  refine g_aload_n dX2_add_43 rfl (by rfl) ?_
  refine g_getf dX2_add_44 fX2_24 (by exact hd_3) (by omega) (by rfl) ?_
  refine g_iconst 0 dX2_add_47 (by rfl) ?_
  refine g_iast' dX2_add_48 (by first | exact q1_3 | exact q2_3 | exact q3_3 | exact q4_3) (by omega) (by rfl) (by omega) (by omega) (fun h4 e4 => ?_)
  first | have hd_4 := s_up_off e4 (by omega) hd_3 | have hd_4 := s_up_at e4
  first | have q1_4 := s_up_off e4 (by omega) q1_3 | have q1_4 := s_up_at e4
  first | have q2_4 := s_up_off e4 (by omega) q2_3 | have q2_4 := s_up_at e4
  first | have q3_4 := s_up_off e4 (by omega) q3_3 | have q3_4 := s_up_at e4
  first | have q4_4 := s_up_off e4 (by omega) q4_3 | have q4_4 := s_up_at e4
  refine g_aload_n dX2_add_49 rfl (by rfl) ?_
  refine g_dup dX2_add_50 (by rfl) ?_
  refine g_getf dX2_add_51 fX2_24 (by exact hd_4) (by omega) (by rfl) ?_
  refine g_iconst 1 dX2_add_54 (by rfl) ?_
  refine g_iadd dX2_add_55 ?_
  refine g_putf' dX2_add_56 pX2_24 (by exact hd_4) (by omega) (by exact Nat.le_of_ble_eq_true rfl) (by rfl) (by rfl) (fun h5 e5 => ?_)
  first | have hd_5 := s_up_off e5 (by omega) hd_4 | have hd_5 := s_up_at e5
  first | have q1_5 := s_up_off e5 (by omega) q1_4 | have q1_5 := s_up_at e5
  first | have q2_5 := s_up_off e5 (by omega) q2_4 | have q2_5 := s_up_at e5
  first | have q3_5 := s_up_off e5 (by omega) q3_4 | have q3_5 := s_up_at e5
  first | have q4_5 := s_up_off e5 (by omega) q4_4 | have q4_5 := s_up_at e5
  refine g_vreturn dX2_add_59 rfl ?_
  have e9 := hd_5
  rw [nI_1] at e9
  exact ⟨rfl, rfl, ⟨e9, q1_5, q2_5, q3_5, q4_5⟩, ((((((s_off.rf (a := d) (b := d + 5)).up e1 (by omega)).up e2 (by omega)).up e3 (by omega)).up e4 (by omega)).up e5 (by omega))⟩

theorem c_X2_room {h : s_H} {n d cnt : Nat} {σ : s_D} (hD : s_disk h d σ) (hn : d + 4 < n) (hc : σ.2 0 = nI cnt) (hc14 : cnt ≤ 14) : s_Mt TX2_room 0 0 [.ref d] h n (s_re (some (.int (d_room σ cnt))) h n) := by
  obtain ⟨hd, q1, q2, q3, q4⟩ := hD
  refine s_Mt_of rfl (by decide) (by exact Nat.le_of_ble_eq_true rfl) ?_
  refine g_aload_n dX2_room_0 rfl (by rfl) ?_
  refine g_getf dX2_room_1 fX2_28 (by exact hd) (by omega) (by rfl) ?_
  refine g_aload_n dX2_room_4 rfl (by rfl) ?_
  refine g_aload_n dX2_room_5 rfl (by rfl) ?_
  refine g_iconst 1 dX2_room_6 (by rfl) ?_
  refine g_callV_e (c_X2_setOf (cnt := cnt) ⟨hd, q1, q2, q3, q4⟩ hn hc hc14 1) dX2_room_7 (mX2_setOf) rfl lX2_54 iX2_setOf vX2_setOf (by decide) (by omega) (by exact hd) rfl rfl rfl rfl (Nat.le_of_ble_eq_true rfl) ?_
  refine g_callV_e (c_X2_totalSize (cnt := cnt) ⟨hd, q1, q2, q3, q4⟩ hn hc hc14 _) dX2_room_10 (mX2_totalSize) rfl lX2_57 iX2_totalSize vX2_totalSize (by decide) (by omega) (by exact hd) rfl rfl rfl rfl (Nat.le_of_ble_eq_true rfl) ?_
  refine g_isub dX2_room_13 ?_
  refine g_ireturn dX2_room_14 rfl ?_
  exact ⟨rfl, rfl, rfl⟩

theorem c_X2_drop {h : s_H} {n d cnt : Nat} {σ : s_D} (hD : s_disk h d σ) (hn : d + 4 < n) (hc : σ.2 0 = nI cnt) (hc14 : cnt ≤ 14) {item : Nat} (hi : item < cnt) : s_Mt TX2_drop 0 0 [.ref d, .int (nI item)] h n (s_rp n (fun r h1 => r = none ∧ s_disk h1 d (d_drop σ item cnt) ∧ s_off h h1 d (d + 5)) s_no) := by
  have loop : ∀ (k j : Nat) (h' : s_H), item ≤ j → j + 1 + k = cnt → s_disk h' d (d_shf σ item (j + 1)) → s_off h h' d (d + 5) → s_G TX2_drop (s_rp n (fun r h1 => r = none ∧ s_disk h1 d (d_drop σ item cnt) ∧ s_off h h1 d (d + 5)) s_no) 4 (s_lvs [(0, .ref d), (1, .int (nI item)), (2, .int (nI (j + 1)))]) [] h' n 0 0 := by
    intro k
    induction k with
    | zero =>
      intro j h' hj hk hD hoff
      obtain rfl : cnt = j + 1 := by omega
      obtain ⟨hd, q1, q2, q3, q4⟩ := hD
      rw [show (d_shf σ item (j + 1)).2 0 = nI (j + 1) from hc] at hd
      refine g_iload_n dX2_drop_4 rfl (by rfl) ?_
      refine g_aload_n dX2_drop_5 rfl (by rfl) ?_
      refine g_getf dX2_drop_6 fX2_24 (by exact hd) (by omega) (by rfl) ?_
      refine g_icmp_ge (tgt := 74) dX2_drop_9 (by decide) (fun _ => ?_) (fun c_9 => absurd (nI_le (by omega) (by omega)) c_9)
      refine g_aload_n dX2_drop_74 rfl (by rfl) ?_
      refine g_dup dX2_drop_75 (by rfl) ?_
      refine g_getf dX2_drop_76 fX2_24 (by exact hd) (by omega) (by rfl) ?_
      refine g_iconst 1 dX2_drop_79 (by rfl) ?_
      refine g_isub dX2_drop_80 ?_
      refine g_putf' dX2_drop_81 pX2_24 (by exact hd) (by omega) (by exact Nat.le_of_ble_eq_true rfl) (by rfl) (by rfl) (fun h1 e1 => ?_)
      first | have hd_1 := s_up_off e1 (by omega) hd | have hd_1 := s_up_at e1
      first | have q1_1 := s_up_off e1 (by omega) q1 | have q1_1 := s_up_at e1
      first | have q2_1 := s_up_off e1 (by omega) q2 | have q2_1 := s_up_at e1
      first | have q3_1 := s_up_off e1 (by omega) q3 | have q3_1 := s_up_at e1
      first | have q4_1 := s_up_off e1 (by omega) q4 | have q4_1 := s_up_at e1
      refine g_vreturn dX2_drop_84 rfl ?_
      have e9 := hd_1
      rw [nI_pred] at e9
      exact ⟨rfl, rfl, ⟨e9, q1_1, q2_1, q3_1, q4_1⟩, hoff.up e1 (by omega)⟩
    | succ k ih =>
      intro j h' hj hk hD hoff
      obtain ⟨hd, q1, q2, q3, q4⟩ := hD
      rw [show (d_shf σ item (j + 1)).2 0 = nI cnt from hc] at hd
      refine g_iload_n dX2_drop_4 rfl (by rfl) ?_
      refine g_aload_n dX2_drop_5 rfl (by rfl) ?_
      refine g_getf dX2_drop_6 fX2_24 (by exact hd) (by omega) (by rfl) ?_
      refine g_icmp_ge (tgt := 74) dX2_drop_9 (by decide) (fun c_9 => absurd c_9 (nI_ge (by omega) (by omega))) (fun _ => ?_)
      refine g_aload_n dX2_drop_12 rfl (by rfl) ?_
      refine g_getf dX2_drop_13 fX2_9 (by exact hd) (by omega) (by rfl) ?_
      refine g_iload_n dX2_drop_16 rfl (by rfl) ?_
      refine g_iconst 1 dX2_drop_17 (by rfl) ?_
      refine g_isub dX2_drop_18 ?_
      refine g_aload_n dX2_drop_19 rfl (by rfl) ?_
      refine g_getf dX2_drop_20 fX2_9 (by exact hd) (by omega) (by rfl) ?_
      refine g_iload_n dX2_drop_23 rfl (by rfl) ?_
      refine g_iald dX2_drop_24 (by first | exact q1 | exact q2 | exact q3 | exact q4) (by omega) (by rfl) (by omega) (by omega) ?_
      refine g_iast' dX2_drop_25 (by first | exact q1 | exact q2 | exact q3 | exact q4) (by omega) (nI_pred j) (by omega) (by omega) (fun h1 e1 => ?_)
      first | have hd_1 := s_up_off e1 (by omega) hd | have hd_1 := s_up_at e1
      first | have q1_1 := s_up_off e1 (by omega) q1 | have q1_1 := s_up_at e1
      first | have q2_1 := s_up_off e1 (by omega) q2 | have q2_1 := s_up_at e1
      first | have q3_1 := s_up_off e1 (by omega) q3 | have q3_1 := s_up_at e1
      first | have q4_1 := s_up_off e1 (by omega) q4 | have q4_1 := s_up_at e1
      refine g_aload_n dX2_drop_26 rfl (by rfl) ?_
      refine g_getf dX2_drop_27 fX2_15 (by exact hd_1) (by omega) (by rfl) ?_
      refine g_iload_n dX2_drop_30 rfl (by rfl) ?_
      refine g_iconst 1 dX2_drop_31 (by rfl) ?_
      refine g_isub dX2_drop_32 ?_
      refine g_aload_n dX2_drop_33 rfl (by rfl) ?_
      refine g_getf dX2_drop_34 fX2_15 (by exact hd_1) (by omega) (by rfl) ?_
      refine g_iload_n dX2_drop_37 rfl (by rfl) ?_
      refine g_iald dX2_drop_38 (by first | exact q1_1 | exact q2_1 | exact q3_1 | exact q4_1) (by omega) (by rfl) (by omega) (by omega) ?_
      refine g_iast' dX2_drop_39 (by first | exact q1_1 | exact q2_1 | exact q3_1 | exact q4_1) (by omega) (nI_pred j) (by omega) (by omega) (fun h2 e2 => ?_)
      first | have hd_2 := s_up_off e2 (by omega) hd_1 | have hd_2 := s_up_at e2
      first | have q1_2 := s_up_off e2 (by omega) q1_1 | have q1_2 := s_up_at e2
      first | have q2_2 := s_up_off e2 (by omega) q2_1 | have q2_2 := s_up_at e2
      first | have q3_2 := s_up_off e2 (by omega) q3_1 | have q3_2 := s_up_at e2
      first | have q4_2 := s_up_off e2 (by omega) q4_1 | have q4_2 := s_up_at e2
      refine g_aload_n dX2_drop_40 rfl (by rfl) ?_
      refine g_getf dX2_drop_41 fX2_18 (by exact hd_2) (by omega) (by rfl) ?_
      refine g_iload_n dX2_drop_44 rfl (by rfl) ?_
      refine g_iconst 1 dX2_drop_45 (by rfl) ?_
      refine g_isub dX2_drop_46 ?_
      refine g_aload_n dX2_drop_47 rfl (by rfl) ?_
      refine g_getf dX2_drop_48 fX2_18 (by exact hd_2) (by omega) (by rfl) ?_
      refine g_iload_n dX2_drop_51 rfl (by rfl) ?_
      refine g_iald dX2_drop_52 (by first | exact q1_2 | exact q2_2 | exact q3_2 | exact q4_2) (by omega) (by rfl) (by omega) (by omega) ?_
      refine g_iast' dX2_drop_53 (by first | exact q1_2 | exact q2_2 | exact q3_2 | exact q4_2) (by omega) (nI_pred j) (by omega) (by omega) (fun h3 e3 => ?_)
      first | have hd_3 := s_up_off e3 (by omega) hd_2 | have hd_3 := s_up_at e3
      first | have q1_3 := s_up_off e3 (by omega) q1_2 | have q1_3 := s_up_at e3
      first | have q2_3 := s_up_off e3 (by omega) q2_2 | have q2_3 := s_up_at e3
      first | have q3_3 := s_up_off e3 (by omega) q3_2 | have q3_3 := s_up_at e3
      first | have q4_3 := s_up_off e3 (by omega) q4_2 | have q4_3 := s_up_at e3
      refine g_aload_n dX2_drop_54 rfl (by rfl) ?_
      refine g_getf dX2_drop_55 fX2_21 (by exact hd_3) (by omega) (by rfl) ?_
      refine g_iload_n dX2_drop_58 rfl (by rfl) ?_
      refine g_iconst 1 dX2_drop_59 (by rfl) ?_
      refine g_isub dX2_drop_60 ?_
      refine g_aload_n dX2_drop_61 rfl (by rfl) ?_
      refine g_getf dX2_drop_62 fX2_21 (by exact hd_3) (by omega) (by rfl) ?_
      refine g_iload_n dX2_drop_65 rfl (by rfl) ?_
      refine g_iald dX2_drop_66 (by first | exact q1_3 | exact q2_3 | exact q3_3 | exact q4_3) (by omega) (by rfl) (by omega) (by omega) ?_
      refine g_iast' dX2_drop_67 (by first | exact q1_3 | exact q2_3 | exact q3_3 | exact q4_3) (by omega) (nI_pred j) (by omega) (by omega) (fun h4 e4 => ?_)
      first | have hd_4 := s_up_off e4 (by omega) hd_3 | have hd_4 := s_up_at e4
      first | have q1_4 := s_up_off e4 (by omega) q1_3 | have q1_4 := s_up_at e4
      first | have q2_4 := s_up_off e4 (by omega) q2_3 | have q2_4 := s_up_at e4
      first | have q3_4 := s_up_off e4 (by omega) q3_3 | have q3_4 := s_up_at e4
      first | have q4_4 := s_up_off e4 (by omega) q4_3 | have q4_4 := s_up_at e4
      refine g_iinc (nI (j + 2)) dX2_drop_68 (by rfl) (nI_inc (j + 1)) ?_
      refine g_goto (tgt := 4) dX2_drop_71 (by decide) ?_
      exact g_lv (ih (j + 1) h4 (by omega) (by omega) ⟨(by rw [← hc] at hd_4; exact hd_4), (by show _ = Sum.inl (0, 14, Sum.inl (d_sh (σ.1 0) item (j + 2))); rw [← d_sh_step hj]; exact q1_4), (by show _ = Sum.inl (0, 14, Sum.inl (d_sh (σ.1 1) item (j + 2))); rw [← d_sh_step hj]; exact q2_4), (by show _ = Sum.inl (0, 14, Sum.inl (d_sh (σ.1 2) item (j + 2))); rw [← d_sh_step hj]; exact q3_4), (by show _ = Sum.inl (0, 14, Sum.inl (d_sh (σ.1 3) item (j + 2))); rw [← d_sh_step hj]; exact q4_4)⟩ ((((hoff.up e1 (by omega)).up e2 (by omega)).up e3 (by omega)).up e4 (by omega))) ⟨rfl, rfl, rfl, trivial⟩
  obtain ⟨hd, q1, q2, q3, q4⟩ := hD
  refine s_Mt_of rfl (by decide) (by exact Nat.le_of_ble_eq_true rfl) ?_
  refine g_iload_n dX2_drop_0 rfl (by rfl) ?_
  refine g_iconst 1 dX2_drop_1 (by rfl) ?_
  refine g_iadd dX2_drop_2 ?_
  refine g_istore_n dX2_drop_3 rfl (by decide) ?_
  exact g_lv (loop (cnt - (item + 1)) item h (Nat.le_refl _) (by omega) ⟨hd, by show _ = Sum.inl (0, 14, Sum.inl (d_sh (σ.1 0) item (item + 1))); rw [d_sh_0]; exact q1, by show _ = Sum.inl (0, 14, Sum.inl (d_sh (σ.1 1) item (item + 1))); rw [d_sh_0]; exact q2, by show _ = Sum.inl (0, 14, Sum.inl (d_sh (σ.1 2) item (item + 1))); rw [d_sh_0]; exact q3, by show _ = Sum.inl (0, 14, Sum.inl (d_sh (σ.1 3) item (item + 1))); rw [d_sh_0]; exact q4⟩ s_off.rf) ⟨rfl, rfl, s_some (nI_1 item), trivial⟩

theorem c_X2_keep {h : s_H} {n d cnt : Nat} {σ : s_D} (hD : s_disk h d σ) (hn : d + 4 < n) (hc : σ.2 0 = nI cnt) (hc14 : cnt ≤ 14) (set : Int32) : s_Mt TX2_keep 0 0 [.ref d, .int set] h n (s_rp n (fun r h1 => r = (some (.int (nI (d_kc (σ.1 3) set cnt)))) ∧ s_disk h1 d (d_kps σ set cnt) ∧ s_off h h1 d (d + 5)) s_no) := by
  have loop : ∀ (k i : Nat) (h' : s_H), i + k = cnt → s_disk h' d (d_kps σ set i) → s_off h h' d (d + 5) → s_G TX2_keep (s_rp n (fun r h1 => r = (some (.int (nI (d_kc (σ.1 3) set cnt)))) ∧ s_disk h1 d (d_kps σ set cnt) ∧ s_off h h1 d (d + 5)) s_no) 4 (s_lvs [(0, .ref d), (1, .int set), (2, .int (nI (d_kc (σ.1 3) set i))), (3, .int (nI i))]) [] h' n 0 0 := by
    intro k
    induction k with
    | zero =>
      intro i h' hk hD hoff
      obtain rfl : i = cnt := by omega
      obtain ⟨hd, q1, q2, q3, q4⟩ := id hD
      rw [show (d_kps σ set i).2 0 = nI i from hc] at hd
      refine g_iload_n dX2_keep_4 rfl (by rfl) ?_
      refine g_aload_n dX2_keep_5 rfl (by rfl) ?_
      refine g_getf dX2_keep_6 fX2_24 (by exact hd) (by omega) (by rfl) ?_
      refine g_icmp_ge (tgt := 46) dX2_keep_9 (by decide) (fun _ => ?_) (fun c_9 => absurd (nI_le (by omega) (by omega)) c_9)
      refine g_iload_n dX2_keep_46 rfl (by rfl) ?_
      refine g_ireturn dX2_keep_47 rfl ?_
      exact ⟨rfl, rfl, hD, hoff⟩
    | succ k ih =>
      intro i h' hk hD hoff
      obtain ⟨hd, q1, q2, q3, q4⟩ := hD
      have hd9 := hd
      rw [show (d_kps σ set i).2 0 = nI cnt from hc] at hd
      refine g_iload_n dX2_keep_4 rfl (by rfl) ?_
      refine g_aload_n dX2_keep_5 rfl (by rfl) ?_
      refine g_getf dX2_keep_6 fX2_24 (by exact hd) (by omega) (by rfl) ?_
      refine g_icmp_ge (tgt := 46) dX2_keep_9 (by decide) (fun c_9 => absurd c_9 (nI_ge (by omega) (by omega))) (fun _ => ?_)
      refine g_iload_n dX2_keep_12 rfl (by rfl) ?_
      refine g_iload_n dX2_keep_13 rfl (by rfl) ?_
      refine g_callSN_e (c_X8_contains set (nI i)) dX2_keep_14 (mX8_contains) rfl lX2_46 sX8_contains (by decide) rfl rfl (Nat.le_of_ble_eq_true rfl) ?_
      refine g_if_eq (tgt := 40) dX2_keep_17 (by decide) (fun c_17 => ?_) (fun c_17 => ?_)
      · refine g_iinc (nI (i + 1)) dX2_keep_40 (by rfl) (nI_inc i) ?_
        refine g_goto (tgt := 4) dX2_keep_43 (by decide) ?_
        first
          | exact g_lv (ih (i + 1) h' (by omega) ⟨hd9, q1, q2, q3, (by show _ = Sum.inl (0, 14, Sum.inl (d_kp (σ.1 3) set (i + 1))); rw [d_kp_n (Or.inl (s_ite01.mp c_17))]; exact q4)⟩ hoff) ⟨rfl, rfl, (by show (some (Value.int (nI (d_kc (σ.1 3) set i))) : Option Value) = some (.int (nI (d_kc (σ.1 3) set (i + 1)))); rw [d_kc, if_pos (s_ite01.mp c_17)]), rfl, trivial⟩
          | exact g_lv (ih (i + 1) h' (by omega) ⟨hd9, q1, q2, q3, (by show _ = Sum.inl (0, 14, Sum.inl (d_kp (σ.1 3) set (i + 1))); rw [d_kp_n (Or.inr (d_kp_at.symm.trans c_27))]; exact q4)⟩ hoff) ⟨rfl, rfl, (by show (some (Value.int (nI (d_kc (σ.1 3) set i))) : Option Value) = some (.int (nI (d_kc (σ.1 3) set (i + 1)))); rw [d_kc, if_neg (fun z => c_17 (s_ite01.mpr z)), if_pos (d_kp_at.symm.trans c_27)]), rfl, trivial⟩
      · refine g_aload_n dX2_keep_20 rfl (by rfl) ?_
        refine g_getf dX2_keep_21 fX2_21 (by exact hd) (by omega) (by rfl) ?_
        refine g_iload_n dX2_keep_24 rfl (by rfl) ?_
        refine g_iald dX2_keep_25 (by first | exact q1 | exact q2 | exact q3 | exact q4) (by omega) (by rfl) (by omega) (by omega) ?_
        refine g_iconst 1 dX2_keep_26 (by rfl) ?_
        refine g_icmp_eq (tgt := 40) dX2_keep_27 (by decide) (fun c_27 => ?_) (fun c_27 => ?_)
        · refine g_iinc (nI (i + 1)) dX2_keep_40 (by rfl) (nI_inc i) ?_
          refine g_goto (tgt := 4) dX2_keep_43 (by decide) ?_
          first
            | exact g_lv (ih (i + 1) h' (by omega) ⟨hd9, q1, q2, q3, (by show _ = Sum.inl (0, 14, Sum.inl (d_kp (σ.1 3) set (i + 1))); rw [d_kp_n (Or.inl (s_ite01.mp c_17))]; exact q4)⟩ hoff) ⟨rfl, rfl, (by show (some (Value.int (nI (d_kc (σ.1 3) set i))) : Option Value) = some (.int (nI (d_kc (σ.1 3) set (i + 1)))); rw [d_kc, if_pos (s_ite01.mp c_17)]), rfl, trivial⟩
            | exact g_lv (ih (i + 1) h' (by omega) ⟨hd9, q1, q2, q3, (by show _ = Sum.inl (0, 14, Sum.inl (d_kp (σ.1 3) set (i + 1))); rw [d_kp_n (Or.inr (d_kp_at.symm.trans c_27))]; exact q4)⟩ hoff) ⟨rfl, rfl, (by show (some (Value.int (nI (d_kc (σ.1 3) set i))) : Option Value) = some (.int (nI (d_kc (σ.1 3) set (i + 1)))); rw [d_kc, if_neg (fun z => c_17 (s_ite01.mpr z)), if_pos (d_kp_at.symm.trans c_27)]), rfl, trivial⟩
        · refine g_aload_n dX2_keep_30 rfl (by rfl) ?_
          refine g_getf dX2_keep_31 fX2_21 (by exact hd) (by omega) (by rfl) ?_
          refine g_iload_n dX2_keep_34 rfl (by rfl) ?_
          refine g_iconst 1 dX2_keep_35 (by rfl) ?_
          refine g_iast' dX2_keep_36 (by first | exact q1 | exact q2 | exact q3 | exact q4) (by omega) (by rfl) (by omega) (by omega) (fun h1 e1 => ?_)
          first | have hd_1 := s_up_off e1 (by omega) hd | have hd_1 := s_up_at e1
          first | have q1_1 := s_up_off e1 (by omega) q1 | have q1_1 := s_up_at e1
          first | have q2_1 := s_up_off e1 (by omega) q2 | have q2_1 := s_up_at e1
          first | have q3_1 := s_up_off e1 (by omega) q3 | have q3_1 := s_up_at e1
          first | have q4_1 := s_up_off e1 (by omega) q4 | have q4_1 := s_up_at e1
          refine g_iinc (nI (d_kc (σ.1 3) set i + 1)) dX2_keep_37 (by rfl) (nI_inc _) ?_
          refine g_iinc (nI (i + 1)) dX2_keep_40 (by rfl) (nI_inc i) ?_
          refine g_goto (tgt := 4) dX2_keep_43 (by decide) ?_
          exact g_lv (ih (i + 1) h1 (by omega) ⟨(by rw [← hc] at hd_1; exact hd_1), q1_1, q2_1, q3_1, (by show _ = Sum.inl (0, 14, Sum.inl (d_kp (σ.1 3) set (i + 1))); rw [← d_kp_y (fun z => c_17 (s_ite01.mpr z))]; exact q4_1)⟩ (hoff.up e1 (by omega))) ⟨rfl, rfl, (by show (some (Value.int (nI (d_kc (σ.1 3) set i + 1))) : Option Value) = some (.int (nI (d_kc (σ.1 3) set (i + 1)))); rw [d_kc, if_neg (fun z => c_17 (s_ite01.mpr z)), if_neg (fun z => c_27 (d_kp_at.trans z))]), rfl, trivial⟩
  obtain ⟨hd, q1, q2, q3, q4⟩ := hD
  refine s_Mt_of rfl (by decide) (by exact Nat.le_of_ble_eq_true rfl) ?_
  refine g_iconst 0 dX2_keep_0 (by rfl) ?_
  refine g_istore_n dX2_keep_1 rfl (by decide) ?_
  refine g_iconst 0 dX2_keep_2 (by rfl) ?_
  refine g_istore_n dX2_keep_3 rfl (by decide) ?_
  exact g_lv (loop cnt 0 h (by omega) ⟨hd, q1, q2, q3, by show _ = Sum.inl (0, 14, Sum.inl (d_kp (σ.1 3) set 0)); rw [d_kp_0]; exact q4⟩ s_off.rf) ⟨rfl, rfl, rfl, rfl, trivial⟩
