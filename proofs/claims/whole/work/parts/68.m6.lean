/-! THE MODEL: changes of the present state -/
theorem m_D_hd {w : Nat → Int32} {k : Nat} {x : Int32} (hk : k < 5) : (m_D (upd w k x)).1 = (m_D w).1 := by
  funext f i
  show upd w k x (5 + i * 4 + f) = w (5 + i * 4 + f)
  exact if_neg (by omega)
theorem m_D2 (w : Nat → Int32) : (m_D w).2 0 = w 1 ∧ (m_D w).2 1 = w 0 ∧ (m_D w).2 2 = w 2 ∧ (m_D w).2 3 = w 3 ∧ (m_D w).2 4 = w 4 := ⟨rfl, rfl, rfl, rfl, rfl⟩
/-- disks that agree, number by number -/
theorem d_eq_mk {cnt : Nat} {σ τ : s_D} (h0 : σ.2 0 = τ.2 0) (h1 : σ.2 1 = τ.2 1) (h2 : σ.2 2 = τ.2 2) (h3 : σ.2 3 = τ.2 3) (h4 : σ.2 4 = τ.2 4) (g : ∀ j, j < cnt → σ.1 0 j = τ.1 0 j ∧ σ.1 1 j = τ.1 1 j ∧ σ.1 2 j = τ.1 2 j ∧ σ.1 3 j = τ.1 3 j) : d_eq cnt σ τ := by
  refine ⟨fun k hk => ?_, fun f hf j hj => ?_⟩
  · match k, hk with
    | 0, _ => exact h0
    | 1, _ => exact h1
    | 2, _ => exact h2
    | 3, _ => exact h3
    | 4, _ => exact h4
  · obtain ⟨a, b, c, d⟩ := g j hj
    match f, hf with
    | 0, _ => exact a
    | 1, _ => exact b
    | 2, _ => exact c
    | 3, _ => exact d
theorem upd_ne {f : Nat → Int32} {i j : Nat} {x : Int32} (h : j ≠ i) : upd f i x j = f j := if_neg h
theorem upd_at {f : Nat → Int32} {i : Nat} {x : Int32} : upd f i x i = x := if_pos rfl
def m_ad (w : Nat → Int32) (cnt : Nat) (x y : Int32) : Nat → Int32 := upd (upd (upd (upd (upd w 1 (nI (cnt + 1))) (5 + cnt * 4 + 0) x) (5 + cnt * 4 + 1) y) (5 + cnt * 4 + 2) 0) (5 + cnt * 4 + 3) 0
theorem m_D_add {w : Nat → Int32} {cnt : Nat} {x y : Int32} : d_eq (cnt + 1) (m_D (m_ad w cnt x y)) (d_add (m_D w) cnt x y) := by
  have hd : ∀ k, k < 5 → k ≠ 1 → m_ad w cnt x y k = w k := fun k hk h1 => by
    unfold m_ad
    rw [upd_ne (by omega), upd_ne (by omega), upd_ne (by omega), upd_ne (by omega), upd_ne h1]
  refine d_eq_mk ?_ (hd 0 (by omega) (by omega)) (hd 2 (by omega) (by omega)) (hd 3 (by omega) (by omega)) (hd 4 (by omega) (by omega)) (fun j hj => ?_)
  · show m_ad w cnt x y 1 = nI (cnt + 1)
    unfold m_ad
    rw [upd_ne (by omega), upd_ne (by omega), upd_ne (by omega), upd_ne (by omega), upd_at]
  · show m_ad w cnt x y (5 + j * 4 + 0) = (if j = cnt then x else w (5 + j * 4 + 0)) ∧ m_ad w cnt x y (5 + j * 4 + 1) = (if j = cnt then y else w (5 + j * 4 + 1)) ∧ m_ad w cnt x y (5 + j * 4 + 2) = (if j = cnt then 0 else w (5 + j * 4 + 2)) ∧ m_ad w cnt x y (5 + j * 4 + 3) = (if j = cnt then 0 else w (5 + j * 4 + 3))
    unfold m_ad
    by_cases e : j = cnt
    · subst e
      rw [if_pos rfl, if_pos rfl, if_pos rfl, if_pos rfl]
      refine ⟨?_, ?_, ?_, upd_at⟩
      · rw [upd_ne (by omega), upd_ne (by omega), upd_ne (by omega), upd_at]
      · rw [upd_ne (by omega), upd_ne (by omega), upd_at]
      · rw [upd_ne (by omega), upd_at]
    · rw [if_neg e, if_neg e, if_neg e, if_neg e]
      have : ∀ f, f < 4 → upd (upd (upd (upd (upd w 1 (nI (cnt + 1))) (5 + cnt * 4 + 0) x) (5 + cnt * 4 + 1) y) (5 + cnt * 4 + 2) 0) (5 + cnt * 4 + 3) 0 (5 + j * 4 + f) = w (5 + j * 4 + f) := fun f hf => by
        rw [upd_ne (by omega), upd_ne (by omega), upd_ne (by omega), upd_ne (by omega), upd_ne (by omega)]
      exact ⟨this 0 (by omega), this 1 (by omega), this 2 (by omega), this 3 (by omega)⟩

theorem c_X9_add {h : s_H} {n m : Nat} {I w : Nat → Int32} (hM : m_at h m I w) (hn : m + 21 ≤ n) {cnt : Nat} (hc : w 1 = nI cnt) (h14 : cnt < 14) (x y : Int32) : s_Mt TX9_add 0 0 [.ref m, .int x, .int y] h n (s_rp n (fun v9 h1 => v9 = some (.int (nI cnt)) ∧ m_at h1 m I (m_ad w cnt x y) ∧ s_off h h1 (m + 1) (m + 2)) s_no) := by
  have hm := hM.1
  have hw := hM.2
  have hoff : s_off h h (m + 1) (m + 2) := s_off.rf
  refine s_Mt_of rfl (by decide) (by exact Nat.le_of_ble_eq_true rfl) ?_
  refine g_aload_n dX9_add_0 rfl (by rfl) ?_
  refine g_getf dX9_add_1 fX9_9 (by exact hm) (by omega) (by rfl) ?_
  refine g_iconst 1 dX9_add_4 (by rfl) ?_
  refine g_iald dX9_add_5 (by exact hw) (by omega) (show (1 : Int32) = nI 1 from rfl) (by decide) (by omega) ?_
  rw [show w 1 = nI cnt from hc]
  refine g_istore_n dX9_add_6 rfl (by decide) ?_
  refine g_aload_n dX9_add_7 rfl (by rfl) ?_
  refine g_getf dX9_add_8 fX9_9 (by exact hm) (by omega) (by rfl) ?_
  refine g_iconst 1 dX9_add_11 (by rfl) ?_
  refine g_dup2 dX9_add_12 (by rfl) (by rfl) ?_
  refine g_iald dX9_add_13 (by exact hw) (by omega) (show (1 : Int32) = nI 1 from rfl) (by decide) (by omega) ?_
  rw [show w 1 = nI cnt from hc]
  refine g_iconst 1 dX9_add_14 (by rfl) ?_
  refine g_iadd dX9_add_15 ?_
  rw [nI_1]
  refine g_iast' dX9_add_16 (by exact hw) (by omega) (show (1 : Int32) = nI 1 from rfl) (by decide) (by omega) (fun h11 e11 => ?_)
  first | have hm_11 := s_up_off e11 (by omega) hm | have hm_11 := s_up_at e11
  first | have hw_11 := s_up_off e11 (by omega) hw | have hw_11 := s_up_at e11
  have hM : m_at h11 m I (upd w 1 (nI (cnt + 1))) := ⟨hm_11, hw_11⟩
  have hoff : s_off h h11 (m + 1) (m + 2) := hoff.trans ((s_off.rf (a := (m + 1)) (b := (m + 2))).up e11 (by omega))
  have hm := hM.1
  have hw := hM.2
  refine g_aload_n dX9_add_17 rfl (by rfl) ?_
  refine g_iload_n dX9_add_18 rfl (by rfl) ?_
  refine g_iconst (nI 0) dX9_add_19 (by rfl) ?_
  refine g_iload_n dX9_add_20 rfl (by rfl) ?_
  refine g_callV_p (c_X9_put hM hn cnt 0 (by omega) x) dX9_add_21 (mX9_put) rfl lX9_55 iX9_put vX9_put (by decide) (by omega) (by exact hm) rfl rfl rfl rfl (Nat.le_of_ble_eq_true rfl) (fun v9 h9 z9 => ?_)
  obtain ⟨rfl, hM, qoff⟩ := z9
  have hoff := hoff.trans qoff
  have hm := hM.1
  have hw := hM.2
  refine g_aload_n dX9_add_24 rfl (by rfl) ?_
  refine g_iload_n dX9_add_25 rfl (by rfl) ?_
  refine g_iconst (nI 1) dX9_add_26 (by rfl) ?_
  refine g_iload_n dX9_add_27 rfl (by rfl) ?_
  refine g_callV_p (c_X9_put hM hn cnt 1 (by omega) y) dX9_add_28 (mX9_put) rfl lX9_55 iX9_put vX9_put (by decide) (by omega) (by exact hm) rfl rfl rfl rfl (Nat.le_of_ble_eq_true rfl) (fun v9 h9 z9 => ?_)
  obtain ⟨rfl, hM, qoff⟩ := z9
  have hoff := hoff.trans qoff
  have hm := hM.1
  have hw := hM.2
  refine g_aload_n dX9_add_31 rfl (by rfl) ?_
  refine g_iload_n dX9_add_32 rfl (by rfl) ?_
  refine g_iconst (nI 2) dX9_add_33 (by rfl) ?_
  refine g_iconst 0 dX9_add_34 (by rfl) ?_
  refine g_callV_p (c_X9_put hM hn cnt 2 (by omega) 0) dX9_add_35 (mX9_put) rfl lX9_55 iX9_put vX9_put (by decide) (by omega) (by exact hm) rfl rfl rfl rfl (Nat.le_of_ble_eq_true rfl) (fun v9 h9 z9 => ?_)
  obtain ⟨rfl, hM, qoff⟩ := z9
  have hoff := hoff.trans qoff
  have hm := hM.1
  have hw := hM.2
  refine g_aload_n dX9_add_38 rfl (by rfl) ?_
  refine g_iload_n dX9_add_39 rfl (by rfl) ?_
  refine g_iconst (nI 3) dX9_add_40 (by rfl) ?_
  refine g_iconst 0 dX9_add_41 (by rfl) ?_
  refine g_callV_p (c_X9_put hM hn cnt 3 (by omega) 0) dX9_add_42 (mX9_put) rfl lX9_55 iX9_put vX9_put (by decide) (by omega) (by exact hm) rfl rfl rfl rfl (Nat.le_of_ble_eq_true rfl) (fun v9 h9 z9 => ?_)
  obtain ⟨rfl, hM, qoff⟩ := z9
  have hoff := hoff.trans qoff
  have hm := hM.1
  have hw := hM.2
  refine g_iload_n dX9_add_45 rfl (by rfl) ?_
  refine g_ireturn dX9_add_46 rfl ?_
  exact ⟨rfl, rfl, hM, hoff⟩

def m_zr (w : Nat → Int32) (k : Nat) : Nat → Int32 := fun x => if x < k then 0 else w x
theorem m_zr_s {w : Nat → Int32} {k : Nat} : upd (m_zr w k) k 0 = m_zr w (k + 1) := by
  funext x
  simp only [upd, m_zr]
  by_cases e : x = k
  · rw [if_pos e, if_pos (by omega)]
  · rw [if_neg e]
    by_cases e2 : x < k
    · rw [if_pos e2, if_pos (by omega)]
    · rw [if_neg e2, if_neg (by omega)]
theorem m_zr_0 {w : Nat → Int32} : m_zr w 0 = w := funext fun x => if_neg (Nat.not_lt_zero x)
def m_st (w : Nat → Int32) (cap : Int32) (k : Nat) : Nat → Int32 := upd (m_zr w k) 0 cap
theorem m_D_st {w : Nat → Int32} {cap : Int32} {σ : s_D} : d_eq 0 (m_D (m_st w cap 61)) (x_rst σ cap) :=
  d_eq_mk rfl rfl rfl rfl rfl (fun j hj => absurd hj (Nat.not_lt_zero j))

theorem c_X9_start {h : s_H} {n m : Nat} {I w : Nat → Int32} (hM : m_at h m I w) (hn : m + 21 ≤ n) (cap : Int32) : s_Mt TX9_start 0 0 [.ref m, .int cap] h n (s_rp n (fun v9 h1 => v9 = none ∧ m_at h1 m I (m_st w cap 61) ∧ s_off h h1 (m + 1) (m + 2)) s_no) := by
  have hm := hM.1
  have hw := hM.2
  have loop : ∀ (r k : Nat) (h' : s_H), k + r = 61 → h' m = .inr (7, m_fs m I) → h' (m + 1) = .inl (0, 61, .inl (m_zr w k)) → s_off h h' (m + 1) (m + 2) → s_G TX9_start (s_rp n (fun v9 h1 => v9 = none ∧ m_at h1 m I (m_st w cap 61) ∧ s_off h h1 (m + 1) (m + 2)) s_no) 2 (s_lvs [(0, .ref m), (1, .int cap), (2, .int (nI k))]) [] h' n 0 0 := by
    intro r
    induction r with
    | zero =>
      intro k h' hk hm hw hoff
      obtain rfl : k = 61 := by omega
      refine g_iload_n dX9_start_2 rfl (by rfl) ?_
      refine g_bipush 61 dX9_start_3 (by rfl) ?_
      refine g_icmp_ge (tgt := 21) dX9_start_5 (by decide) (fun _ => ?_) (fun c_5 => absurd (show nI 61 ≤ nI 61 from nI_le (Nat.le_refl _) (by omega)) c_5)
      refine g_aload_n dX9_start_21 rfl (by rfl) ?_
      refine g_getf dX9_start_22 fX9_9 (by exact hm) (by omega) (by rfl) ?_
      refine g_iconst 0 dX9_start_25 (by rfl) ?_
      refine g_iload_n dX9_start_26 rfl (by rfl) ?_
      refine g_iast' dX9_start_27 (by exact hw) (by omega) (show (0 : Int32) = nI 0 from rfl) (by decide) (by omega) (fun h1 e1 => ?_)
      first | have hm_1 := s_up_off e1 (by omega) hm | have hm_1 := s_up_at e1
      first | have hw_1 := s_up_off e1 (by omega) hw | have hw_1 := s_up_at e1
      refine g_vreturn dX9_start_28 rfl ?_
      exact ⟨rfl, rfl, ⟨hm_1, hw_1⟩, hoff.up e1 (by omega)⟩
    | succ r ih =>
      intro k h' hk hm hw hoff
      refine g_iload_n dX9_start_2 rfl (by rfl) ?_
      refine g_bipush 61 dX9_start_3 (by rfl) ?_
      refine g_icmp_ge (tgt := 21) dX9_start_5 (by decide) (fun c_5 => absurd c_5 (show ¬ nI 61 ≤ nI k from nI_ge (by omega) (by omega))) (fun _ => ?_)
      refine g_aload_n dX9_start_8 rfl (by rfl) ?_
      refine g_getf dX9_start_9 fX9_9 (by exact hm) (by omega) (by rfl) ?_
      refine g_iload_n dX9_start_12 rfl (by rfl) ?_
      refine g_iconst 0 dX9_start_13 (by rfl) ?_
      refine g_iast' dX9_start_14 (by exact hw) (by omega) (by rfl) (by omega) (by omega) (fun h1 e1 => ?_)
      first | have hm_1 := s_up_off e1 (by omega) hm | have hm_1 := s_up_at e1
      first | have hw_1 := s_up_off e1 (by omega) hw | have hw_1 := s_up_at e1
      refine g_iinc (nI (k + 1)) dX9_start_15 (by rfl) (nI_inc k) ?_
      refine g_goto (tgt := 2) dX9_start_18 (by decide) ?_
      exact g_lv (ih (k + 1) h1 (by omega) hm_1 (by rw [← m_zr_s]; exact hw_1) (hoff.up e1 (by omega))) ⟨rfl, rfl, rfl, trivial⟩
  refine s_Mt_of rfl (by decide) (by exact Nat.le_of_ble_eq_true rfl) ?_
  refine g_iconst 0 dX9_start_0 (by rfl) ?_
  refine g_istore_n dX9_start_1 rfl (by decide) ?_
  exact g_lv (loop 61 0 h (by omega) hm (by rw [m_zr_0]; exact hw) s_off.rf) ⟨rfl, rfl, rfl, trivial⟩

theorem m_kp_s {σ τ : s_D} {cnt k : Nat} {plan : Int32} (he : d_eq cnt τ (d_kps σ plan k)) (h : ∀ j, j < cnt → d_kp (σ.1 3) plan (k + 1) j = d_kp (σ.1 3) plan k j) : d_eq cnt τ (d_kps σ plan (k + 1)) :=
  d_eq_mk (he.1 0 (by omega)) (he.1 1 (by omega)) (he.1 2 (by omega)) (he.1 3 (by omega)) (he.1 4 (by omega)) (fun j hj => ⟨he.2 0 (by omega) j hj, he.2 1 (by omega) j hj, he.2 2 (by omega) j hj, (he.2 3 (by omega) j hj).trans (h j hj).symm⟩)
theorem m_kp_0 {σ : s_D} {cnt : Nat} {plan : Int32} : d_eq cnt σ (d_kps σ plan 0) := d_eq_mk rfl rfl rfl rfl rfl (fun j hj => ⟨rfl, rfl, rfl, by
  show σ.1 3 j = (if j < 0 ∧ ¬ s_bit plan (nI j) = 0 then 1 else σ.1 3 j)
  rw [if_neg (fun z => Nat.not_lt_zero _ z.1)]⟩)
theorem m_kp0 {σ τ : s_D} {cnt k : Nat} {plan : Int32} (he : d_eq cnt τ (d_kps σ plan k)) (hz : s_bit plan (nI k) = 0) : d_eq cnt τ (d_kps σ plan (k + 1)) := m_kp_s he (fun j hj => by
  unfold d_kp
  by_cases e : j = k
  · subst e; rw [if_neg (fun z => z.2 hz), if_neg (fun z => z.2 hz)]
  · simp only [show (j < k + 1) = (j < k) from propext ⟨fun z => by omega, fun z => by omega⟩])
theorem m_kp1 {σ τ : s_D} {cnt k : Nat} {plan : Int32} (he : d_eq cnt τ (d_kps σ plan k)) (hp : σ.1 3 k = 1) : d_eq cnt τ (d_kps σ plan (k + 1)) := m_kp_s he (fun j hj => by
  unfold d_kp
  by_cases e : j = k
  · subst e
    have r : (if j < j ∧ ¬ s_bit plan (nI j) = 0 then (1 : Int32) else σ.1 3 j) = σ.1 3 j := if_neg (fun z => Nat.lt_irrefl _ z.1)
    rw [r]
    split
    · exact hp.symm
    · rfl
  · simp only [show (j < k + 1) = (j < k) from propext ⟨fun z => by omega, fun z => by omega⟩])
theorem m_kp2 {σ : s_D} {w9 : Nat → Int32} {cnt k : Nat} {plan : Int32} (he : d_eq cnt (m_D w9) (d_kps σ plan k)) (hz : ¬ s_bit plan (nI k) = 0) : d_eq cnt (m_D (upd w9 (5 + k * 4 + 3) 1)) (d_kps σ plan (k + 1)) := by
  have h1 := (m_D_put (w := w9) (i := k) (f := 3) (x := 1) (cnt := cnt) (by omega)).tr (he.put (i := k) (x := 1) (f := 3) (by omega))
  refine h1.tr (d_eq_mk rfl rfl rfl rfl rfl (fun j hj => ⟨rfl, rfl, rfl, ?_⟩))
  show (if j = k then 1 else d_kp (σ.1 3) plan k j) = d_kp (σ.1 3) plan (k + 1) j
  unfold d_kp
  by_cases e : j = k
  · subst e; rw [if_pos rfl, if_pos ⟨by omega, hz⟩]
  · rw [if_neg e]
    simp only [show (j < k + 1) = (j < k) from propext ⟨fun z => by omega, fun z => by omega⟩]

theorem c_X9_pinAll {h : s_H} {n m : Nat} {I w : Nat → Int32} (hM : m_at h m I w) (hn : m + 21 ≤ n) {cnt : Nat} (hc : w 1 = nI cnt) (h14 : cnt ≤ 14) (plan : Int32) : s_Mt TX9_pinAll 0 0 [.ref m, .int plan] h n (s_rp n (fun v9 h1 => v9 = some (.int (nI (d_kc ((m_D w).1 3) plan cnt))) ∧ (∃ w1, m_at h1 m I w1 ∧ d_eq cnt (m_D w1) (d_kps (m_D w) plan cnt)) ∧ s_off h h1 (m + 1) (m + 2)) s_no) := by
  have hm := hM.1
  have hw := hM.2
  have loop : ∀ (r k : Nat) (h' : s_H) (w9 : Nat → Int32), k + r = cnt → m_at h' m I w9 → d_eq cnt (m_D w9) (d_kps (m_D w) plan k) → s_off h h' (m + 1) (m + 2) → s_G TX9_pinAll (s_rp n (fun v9 h1 => v9 = some (.int (nI (d_kc ((m_D w).1 3) plan cnt))) ∧ (∃ w1, m_at h1 m I w1 ∧ d_eq cnt (m_D w1) (d_kps (m_D w) plan cnt)) ∧ s_off h h1 (m + 1) (m + 2)) s_no) 4 (s_lvs [(0, .ref m), (1, .int plan), (2, .int (nI (d_kc ((m_D w).1 3) plan k))), (3, .int (nI k))]) [] h' n 0 0 := by
    intro r
    induction r with
    | zero =>
      intro k h' w9 hk hM he hoff
      have hm := hM.1
      have hw := hM.2
      have hc9 : w9 1 = nI cnt := (he.1 0 (by omega)).trans hc
      refine g_iload_n dX9_pinAll_4 rfl (by rfl) ?_
      refine g_aload_n dX9_pinAll_5 rfl (by rfl) ?_
      refine g_getf dX9_pinAll_6 fX9_9 (by exact hm) (by omega) (by rfl) ?_
      refine g_iconst 1 dX9_pinAll_9 (by rfl) ?_
      refine g_iald dX9_pinAll_10 (by exact hw) (by omega) (show (1 : Int32) = nI 1 from rfl) (by decide) (by omega) ?_
      refine g_icmp_ge (tgt := 47) dX9_pinAll_11 (by decide) (fun _ => ?_) (fun c_11 => absurd (by rw [show w9 1 = nI cnt from hc9]; exact nI_le (by omega) (by omega)) c_11)
      refine g_iload_n dX9_pinAll_47 rfl (by rfl) ?_
      refine g_ireturn dX9_pinAll_48 rfl ?_
      obtain rfl : k = cnt := by omega
      exact ⟨rfl, rfl, ⟨w9, hM, he⟩, hoff⟩
    | succ r ih =>
      intro k h' w9 hk hM he hoff
      have hm := hM.1
      have hw := hM.2
      have hc9 : w9 1 = nI cnt := (he.1 0 (by omega)).trans hc
      have hk3 : (m_D w9).1 3 k = (m_D w).1 3 k := (he.2 3 (by omega) k (by omega)).trans (if_neg (fun z => absurd z.1 (by omega)))
      refine g_iload_n dX9_pinAll_4 rfl (by rfl) ?_
      refine g_aload_n dX9_pinAll_5 rfl (by rfl) ?_
      refine g_getf dX9_pinAll_6 fX9_9 (by exact hm) (by omega) (by rfl) ?_
      refine g_iconst 1 dX9_pinAll_9 (by rfl) ?_
      refine g_iald dX9_pinAll_10 (by exact hw) (by omega) (show (1 : Int32) = nI 1 from rfl) (by decide) (by omega) ?_
      refine g_icmp_ge (tgt := 47) dX9_pinAll_11 (by decide) (fun c_11 => absurd c_11 (by rw [show w9 1 = nI cnt from hc9]; exact nI_ge (by omega) (by omega))) (fun _ => ?_)
      refine g_iload_n dX9_pinAll_14 rfl (by rfl) ?_
      refine g_iload_n dX9_pinAll_15 rfl (by rfl) ?_
      refine g_callS_e (c_X9_has _ _) dX9_pinAll_16 (mX9_has) rfl lX9_80 sX9_has (by decide) rfl rfl (Nat.le_of_ble_eq_true rfl) ?_
      refine g_if_eq (tgt := 41) dX9_pinAll_19 (by decide) (fun c_19 => ?_) (fun c_19 => ?_)
      · have hz : s_bit plan (nI k) = 0 := Classical.byContradiction fun z => by rw [if_neg z] at c_19; exact absurd c_19 (by decide)
        refine g_iinc (nI (k + 1)) dX9_pinAll_41 (by rfl) (nI_inc k) ?_
        refine g_goto (tgt := 4) dX9_pinAll_44 (by decide) ?_
        first
        | (have e : d_kc ((m_D w).1 3) plan (k + 1) = d_kc ((m_D w).1 3) plan k := by simp only [d_kc]; exact if_pos hz
           exact g_lv (ih (k + 1) _ w9 (by omega) hM (m_kp0 he hz) hoff) ⟨rfl, rfl, by rw [e]; rfl, rfl, trivial⟩)
        | (have e : d_kc ((m_D w).1 3) plan (k + 1) = d_kc ((m_D w).1 3) plan k := by simp only [d_kc]; rw [if_neg hz]; exact if_pos (hk3.symm.trans hp)
           exact g_lv (ih (k + 1) _ w9 (by omega) hM (m_kp1 he (hk3.symm.trans hp)) hoff) ⟨rfl, rfl, by rw [e]; rfl, rfl, trivial⟩)
        | (have e : d_kc ((m_D w).1 3) plan (k + 1) = d_kc ((m_D w).1 3) plan k + 1 := by simp only [d_kc]; rw [if_neg hz]; exact if_neg (fun z => hp (hk3.trans z))
           exact g_lv (ih (k + 1) _ _ (by omega) hM (m_kp2 he hz) hoff) ⟨rfl, rfl, by rw [e]; rfl, rfl, trivial⟩)
      · have hz : ¬ s_bit plan (nI k) = 0 := fun z => c_19 (by rw [if_pos z])
        refine g_aload_n dX9_pinAll_22 rfl (by rfl) ?_
        refine g_iload_n dX9_pinAll_23 rfl (by rfl) ?_
        refine g_iconst 1 dX9_pinAll_24 (by rfl) ?_
        refine g_callV_e (c_X9_is hM hn k (by omega) 1) dX9_pinAll_25 (mX9_is) rfl lX9_76 iX9_is vX9_is (by decide) (by omega) (by exact hm) rfl rfl rfl rfl (Nat.le_of_ble_eq_true rfl) ?_
        refine g_if_ne (tgt := 41) dX9_pinAll_28 (by decide) (fun c_28 => ?_) (fun c_28 => ?_)
        · have hp : (m_D w9).1 3 k = 1 := Classical.byContradiction fun z => c_28 (by rw [if_neg z])
          refine g_iinc (nI (k + 1)) dX9_pinAll_41 (by rfl) (nI_inc k) ?_
          refine g_goto (tgt := 4) dX9_pinAll_44 (by decide) ?_
          first
          | (have e : d_kc ((m_D w).1 3) plan (k + 1) = d_kc ((m_D w).1 3) plan k := by simp only [d_kc]; exact if_pos hz
             exact g_lv (ih (k + 1) _ w9 (by omega) hM (m_kp0 he hz) hoff) ⟨rfl, rfl, by rw [e]; rfl, rfl, trivial⟩)
          | (have e : d_kc ((m_D w).1 3) plan (k + 1) = d_kc ((m_D w).1 3) plan k := by simp only [d_kc]; rw [if_neg hz]; exact if_pos (hk3.symm.trans hp)
             exact g_lv (ih (k + 1) _ w9 (by omega) hM (m_kp1 he (hk3.symm.trans hp)) hoff) ⟨rfl, rfl, by rw [e]; rfl, rfl, trivial⟩)
          | (have e : d_kc ((m_D w).1 3) plan (k + 1) = d_kc ((m_D w).1 3) plan k + 1 := by simp only [d_kc]; rw [if_neg hz]; exact if_neg (fun z => hp (hk3.trans z))
             exact g_lv (ih (k + 1) _ _ (by omega) hM (m_kp2 he hz) hoff) ⟨rfl, rfl, by rw [e]; rfl, rfl, trivial⟩)
        · have hp : ¬ (m_D w9).1 3 k = 1 := fun z => by rw [if_pos z] at c_28; exact absurd c_28 (by decide)
          refine g_aload_n dX9_pinAll_31 rfl (by rfl) ?_
          refine g_iload_n dX9_pinAll_32 rfl (by rfl) ?_
          refine g_iconst (nI 3) dX9_pinAll_33 (by rfl) ?_
          refine g_iconst 1 dX9_pinAll_34 (by rfl) ?_
          refine g_callV_p (c_X9_put hM hn k 3 (by omega) 1) dX9_pinAll_35 (mX9_put) rfl lX9_55 iX9_put vX9_put (by decide) (by omega) (by exact hm) rfl rfl rfl rfl (Nat.le_of_ble_eq_true rfl) (fun v9 h9 z9 => ?_)
          obtain ⟨rfl, hM, qoff⟩ := z9
          have hoff := hoff.trans qoff
          have hm := hM.1
          have hw := hM.2
          refine g_iinc (nI (d_kc ((m_D w).1 3) plan k + 1)) dX9_pinAll_38 (by rfl) (nI_inc _) ?_
          refine g_iinc (nI (k + 1)) dX9_pinAll_41 (by rfl) (nI_inc k) ?_
          refine g_goto (tgt := 4) dX9_pinAll_44 (by decide) ?_
          first
          | (have e : d_kc ((m_D w).1 3) plan (k + 1) = d_kc ((m_D w).1 3) plan k := by simp only [d_kc]; exact if_pos hz
             exact g_lv (ih (k + 1) _ w9 (by omega) hM (m_kp0 he hz) hoff) ⟨rfl, rfl, by rw [e]; rfl, rfl, trivial⟩)
          | (have e : d_kc ((m_D w).1 3) plan (k + 1) = d_kc ((m_D w).1 3) plan k := by simp only [d_kc]; rw [if_neg hz]; exact if_pos (hk3.symm.trans hp)
             exact g_lv (ih (k + 1) _ w9 (by omega) hM (m_kp1 he (hk3.symm.trans hp)) hoff) ⟨rfl, rfl, by rw [e]; rfl, rfl, trivial⟩)
          | (have e : d_kc ((m_D w).1 3) plan (k + 1) = d_kc ((m_D w).1 3) plan k + 1 := by simp only [d_kc]; rw [if_neg hz]; exact if_neg (fun z => hp (hk3.trans z))
             exact g_lv (ih (k + 1) _ _ (by omega) hM (m_kp2 he hz) hoff) ⟨rfl, rfl, by rw [e]; rfl, rfl, trivial⟩)
  refine s_Mt_of rfl (by decide) (by exact Nat.le_of_ble_eq_true rfl) ?_
  refine g_iconst 0 dX9_pinAll_0 (by rfl) ?_
  refine g_istore_n dX9_pinAll_1 rfl (by decide) ?_
  refine g_iconst 0 dX9_pinAll_2 (by rfl) ?_
  refine g_istore_n dX9_pinAll_3 rfl (by decide) ?_
  exact g_lv (loop cnt 0 h w (by omega) hM m_kp_0 s_off.rf) ⟨rfl, rfl, rfl, rfl, trivial⟩
