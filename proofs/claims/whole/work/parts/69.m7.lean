/-! THE MODEL: an item is removed, backups -/
/-- the items behind an item move up, place by place -/
def m_rm (w : Nat → Int32) (a i : Nat) : Nat → Int32 := fun x => if a ≤ x ∧ x < i then w (x + 4) else w x
theorem m_rm_s {w : Nat → Int32} {a i : Nat} (h : a ≤ i) : upd (m_rm w a i) i (m_rm w a i (i + 4)) = m_rm w a (i + 1) := by
  funext x
  simp only [upd, m_rm]
  by_cases e : x = i
  · subst e
    rw [if_pos rfl, if_neg (by omega), if_pos (by omega)]
  · rw [if_neg e]
    by_cases e2 : a ≤ x ∧ x < i
    · rw [if_pos e2, if_pos (by omega)]
    · rw [if_neg e2, if_neg (by omega)]
theorem m_rm_0 {w : Nat → Int32} {a : Nat} : m_rm w a a = w := funext fun x => if_neg (by omega)
/-- the last item's numbers are wiped out -/
def m_wp (w : Nat → Int32) (c : Nat) : Nat → (Nat → Int32)
  | 0 => w
  | f + 1 => upd (m_wp w c f) (5 + c * 4 + f) 0
theorem m_wp_lo {w : Nat → Int32} {c x : Nat} (hx : x < 5 + c * 4) : ∀ f, m_wp w c f x = w x
  | 0 => rfl
  | f + 1 => by
    unfold m_wp
    rw [upd_ne (by omega)]
    exact m_wp_lo hx f
def m_rem (w : Nat → Int32) (item c : Nat) : Nat → Int32 := m_wp (m_rm (upd w 1 (nI c)) (5 + item * 4) (5 + c * 4)) c 4
theorem m_D_rem {w : Nat → Int32} {item c : Nat} (hi : item ≤ c) : d_eq c (m_D (m_rem w item c)) (d_drop (m_D w) item (c + 1)) := by
  have lo : ∀ k, k < 5 → m_rem w item c k = upd w 1 (nI c) k := fun k hk => by
    unfold m_rem
    rw [m_wp_lo (by omega)]
    exact if_neg (by omega)
  refine d_eq_mk ((lo 1 (by omega)).trans upd_at) ((lo 0 (by omega)).trans (upd_ne (by omega))) ((lo 2 (by omega)).trans (upd_ne (by omega))) ((lo 3 (by omega)).trans (upd_ne (by omega))) ((lo 4 (by omega)).trans (upd_ne (by omega))) (fun j hj => ?_)
  have hg : ∀ f, f < 4 → (m_D (m_rem w item c)).1 f j = d_sh ((m_D w).1 f) item (c + 1) j := fun f hf => by
    show m_rem w item c (5 + j * 4 + f) = (if item ≤ j ∧ j + 1 < c + 1 then w (5 + (j + 1) * 4 + f) else w (5 + j * 4 + f))
    unfold m_rem
    rw [m_wp_lo (by omega)]
    unfold m_rm
    by_cases e : item ≤ j
    · rw [if_pos (by omega), if_pos (by omega), upd_ne (by omega), show 5 + j * 4 + f + 4 = 5 + (j + 1) * 4 + f by omega]
    · rw [if_neg (by omega), if_neg (by omega), upd_ne (by omega)]
  exact ⟨hg 0 (by omega), hg 1 (by omega), hg 2 (by omega), hg 3 (by omega)⟩

theorem c_X9_remove {h : s_H} {n m : Nat} {I w : Nat → Int32} (hM : m_at h m I w) (hn : m + 21 ≤ n) {c item : Nat} (hc : w 1 = nI (c + 1)) (h14 : c < 14) (hi : item ≤ c) : s_Mt TX9_remove 0 0 [.ref m, .int (nI item)] h n (s_rp n (fun v9 h1 => v9 = none ∧ m_at h1 m I (m_rem w item c) ∧ s_off h h1 (m + 1) (m + 2)) s_no) := by
  have hm := hM.1
  have hw := hM.2
  have hoff : s_off h h (m + 1) (m + 2) := s_off.rf
  have loop2 : ∀ (r f : Nat) (h' : s_H), f + r = 4 → m_at h' m I (m_wp (m_rm (upd w 1 (nI c)) (5 + item * 4) (5 + c * 4)) c f) → s_off h h' (m + 1) (m + 2) → s_G TX9_remove (s_rp n (fun v9 h1 => v9 = none ∧ m_at h1 m I (m_rem w item c) ∧ s_off h h1 (m + 1) (m + 2)) s_no) 52 (s_lvs [(0, .ref m), (1, .int (nI item)), (2, .int (nI f))]) [] h' n 0 0 := by
    intro r
    induction r with
    | zero =>
      intro f h' hf hM hoff
      obtain rfl : f = 4 := by omega
      have hm := hM.1
      have hw := hM.2
      refine g_iload_n dX9_remove_52 rfl (by rfl) ?_
      refine g_iconst 4 dX9_remove_53 (by rfl) ?_
      refine g_icmp_ge (tgt := 75) dX9_remove_54 (by decide) (fun _ => ?_) (fun c_54 => absurd (show nI 4 ≤ nI 4 from nI_le (Nat.le_refl _) (by omega)) c_54)
      refine g_vreturn dX9_remove_75 rfl ?_
      exact ⟨rfl, rfl, hM, hoff⟩
    | succ r ih2 =>
      intro f h' hf hM hoff
      have hm := hM.1
      have hw := hM.2
      have h1f : m_wp (m_rm (upd w 1 (nI c)) (5 + item * 4) (5 + c * 4)) c f 1 = nI c := by
        rw [m_wp_lo (by omega)]
        show (if _ then _ else _) = _
        rw [if_neg (by omega)]
        exact upd_at
      refine g_iload_n dX9_remove_52 rfl (by rfl) ?_
      refine g_iconst 4 dX9_remove_53 (by rfl) ?_
      refine g_icmp_ge (tgt := 75) dX9_remove_54 (by decide) (fun c_54 => absurd c_54 (show ¬ nI 4 ≤ nI f from nI_ge (by omega) (by omega))) (fun _ => ?_)
      refine g_aload_n dX9_remove_57 rfl (by rfl) ?_
      refine g_aload_n dX9_remove_58 rfl (by rfl) ?_
      refine g_getf dX9_remove_59 fX9_9 (by exact hm) (by omega) (by rfl) ?_
      refine g_iconst 1 dX9_remove_62 (by rfl) ?_
      refine g_iald dX9_remove_63 (by exact hw) (by omega) (show (1 : Int32) = nI 1 from rfl) (by decide) (by omega) ?_
      rw [show m_wp (m_rm (upd w 1 (nI c)) (5 + item * 4) (5 + c * 4)) c f 1 = nI c from h1f]
      refine g_iload_n dX9_remove_64 rfl (by rfl) ?_
      refine g_iconst 0 dX9_remove_65 (by rfl) ?_
      refine g_callV_p (c_X9_put hM hn c f (by omega) 0) dX9_remove_66 (mX9_put) rfl lX9_55 iX9_put vX9_put (by decide) (by omega) (by exact hm) rfl rfl rfl rfl (Nat.le_of_ble_eq_true rfl) (fun v9 h9 z9 => ?_)
      obtain ⟨rfl, hM, qoff⟩ := z9
      have hoff := hoff.trans qoff
      have hm := hM.1
      have hw := hM.2
      refine g_iinc (nI (f + 1)) dX9_remove_69 (by rfl) (nI_inc f) ?_
      refine g_goto (tgt := 52) dX9_remove_72 (by decide) ?_
      exact g_lv (ih2 (f + 1) _ (by omega) hM hoff) ⟨rfl, rfl, rfl, trivial⟩
  have loop : ∀ (r i : Nat) (h' : s_H), i + r = (5 + c * 4) → (5 + item * 4) ≤ i → m_at h' m I (m_rm (upd w 1 (nI c)) (5 + item * 4) i) → s_off h h' (m + 1) (m + 2) → s_G TX9_remove (s_rp n (fun v9 h1 => v9 = none ∧ m_at h1 m I (m_rem w item c) ∧ s_off h h1 (m + 1) (m + 2)) s_no) 16 (s_lvs [(0, .ref m), (1, .int (nI item)), (2, .int (nI i))]) [] h' n 0 0 := by
    intro r
    induction r with
    | zero =>
      intro i h' hi hai hM hoff
      have hm := hM.1
      have hw := hM.2
      have h1i : m_rm (upd w 1 (nI c)) (5 + item * 4) i 1 = nI c := (if_neg (by omega)).trans upd_at
      refine g_iload_n dX9_remove_16 rfl (by rfl) ?_
      refine g_iconst 5 dX9_remove_17 (by rfl) ?_
      refine g_aload_n dX9_remove_18 rfl (by rfl) ?_
      refine g_getf dX9_remove_19 fX9_9 (by exact hm) (by omega) (by rfl) ?_
      refine g_iconst 1 dX9_remove_22 (by rfl) ?_
      refine g_iald dX9_remove_23 (by exact hw) (by omega) (show (1 : Int32) = nI 1 from rfl) (by decide) (by omega) ?_
      rw [show m_rm (upd w 1 (nI c)) (5 + item * 4) i 1 = nI c from h1i]
      refine g_iconst 4 dX9_remove_24 (by rfl) ?_
      refine g_imul dX9_remove_25 ?_
      rw [show (4 : Int32) = nI 4 from rfl, nI_mul]
      refine g_iadd dX9_remove_26 ?_
      rw [show (5 : Int32) = nI 5 from rfl, nI_add]
      refine g_icmp_ge (tgt := 50) dX9_remove_27 (by decide) (fun _ => ?_) (fun c_27 => absurd (nI_le (by omega) (by omega)) c_27)
      refine g_iconst 0 dX9_remove_50 (by rfl) ?_
      refine g_istore_n dX9_remove_51 rfl (by decide) ?_
      obtain rfl : i = 5 + c * 4 := by omega
      exact g_lv (loop2 4 0 _ (by omega) hM hoff) ⟨rfl, rfl, rfl, trivial⟩
    | succ r ih =>
      intro i h' hi hai hM hoff
      have hm := hM.1
      have hw := hM.2
      have h1i : m_rm (upd w 1 (nI c)) (5 + item * 4) i 1 = nI c := (if_neg (by omega)).trans upd_at
      refine g_iload_n dX9_remove_16 rfl (by rfl) ?_
      refine g_iconst 5 dX9_remove_17 (by rfl) ?_
      refine g_aload_n dX9_remove_18 rfl (by rfl) ?_
      refine g_getf dX9_remove_19 fX9_9 (by exact hm) (by omega) (by rfl) ?_
      refine g_iconst 1 dX9_remove_22 (by rfl) ?_
      refine g_iald dX9_remove_23 (by exact hw) (by omega) (show (1 : Int32) = nI 1 from rfl) (by decide) (by omega) ?_
      rw [show m_rm (upd w 1 (nI c)) (5 + item * 4) i 1 = nI c from h1i]
      refine g_iconst 4 dX9_remove_24 (by rfl) ?_
      refine g_imul dX9_remove_25 ?_
      rw [show (4 : Int32) = nI 4 from rfl, nI_mul]
      refine g_iadd dX9_remove_26 ?_
      rw [show (5 : Int32) = nI 5 from rfl, nI_add]
      refine g_icmp_ge (tgt := 50) dX9_remove_27 (by decide) (fun c_27 => absurd c_27 (nI_ge (by omega) (by omega))) (fun _ => ?_)
      refine g_aload_n dX9_remove_30 rfl (by rfl) ?_
      refine g_getf dX9_remove_31 fX9_9 (by exact hm) (by omega) (by rfl) ?_
      refine g_iload_n dX9_remove_34 rfl (by rfl) ?_
      refine g_aload_n dX9_remove_35 rfl (by rfl) ?_
      refine g_getf dX9_remove_36 fX9_9 (by exact hm) (by omega) (by rfl) ?_
      refine g_iload_n dX9_remove_39 rfl (by rfl) ?_
      refine g_iconst 4 dX9_remove_40 (by rfl) ?_
      refine g_iadd dX9_remove_41 ?_
      rw [show (4 : Int32) = nI 4 from rfl, nI_add]
      refine g_iald dX9_remove_42 (by exact hw) (by omega) (by rfl) (by omega) (by omega) ?_
      refine g_iast' dX9_remove_43 (by exact hw) (by omega) (by rfl) (by omega) (by omega) (fun h1 e1 => ?_)
      first | have hm_1 := s_up_off e1 (by omega) hm | have hm_1 := s_up_at e1
      first | have hw_1 := s_up_off e1 (by omega) hw | have hw_1 := s_up_at e1
      refine g_iinc (nI (i + 1)) dX9_remove_44 (by rfl) (nI_inc i) ?_
      refine g_goto (tgt := 16) dX9_remove_47 (by decide) ?_
      exact g_lv (ih (i + 1) h1 (by omega) (by omega) ⟨hm_1, by rw [← m_rm_s (by omega)]; exact hw_1⟩ (hoff.up e1 (by omega))) ⟨rfl, rfl, rfl, trivial⟩
  refine s_Mt_of rfl (by decide) (by exact Nat.le_of_ble_eq_true rfl) ?_
  refine g_aload_n dX9_remove_0 rfl (by rfl) ?_
  refine g_getf dX9_remove_1 fX9_9 (by exact hm) (by omega) (by rfl) ?_
  refine g_iconst 1 dX9_remove_4 (by rfl) ?_
  refine g_dup2 dX9_remove_5 (by rfl) (by rfl) ?_
  refine g_iald dX9_remove_6 (by exact hw) (by omega) (show (1 : Int32) = nI 1 from rfl) (by decide) (by omega) ?_
  rw [show w 1 = nI (c + 1) from hc]
  refine g_iconst 1 dX9_remove_7 (by rfl) ?_
  refine g_isub dX9_remove_8 ?_
  rw [nI_pred]
  refine g_iast' dX9_remove_9 (by exact hw) (by omega) (show (1 : Int32) = nI 1 from rfl) (by decide) (by omega) (fun h11 e11 => ?_)
  first | have hm_11 := s_up_off e11 (by omega) hm | have hm_11 := s_up_at e11
  first | have hw_11 := s_up_off e11 (by omega) hw | have hw_11 := s_up_at e11
  have hM : m_at h11 m I (upd w 1 (nI c)) := ⟨hm_11, hw_11⟩
  have hoff : s_off h h11 (m + 1) (m + 2) := hoff.trans ((s_off.rf (a := (m + 1)) (b := (m + 2))).up e11 (by omega))
  have hm := hM.1
  have hw := hM.2
  refine g_iconst 5 dX9_remove_10 (by rfl) ?_
  refine g_iload_n dX9_remove_11 rfl (by rfl) ?_
  refine g_iconst 4 dX9_remove_12 (by rfl) ?_
  refine g_imul dX9_remove_13 ?_
  rw [show (4 : Int32) = nI 4 from rfl, nI_mul]
  refine g_iadd dX9_remove_14 ?_
  rw [show (5 : Int32) = nI 5 from rfl, nI_add]
  refine g_istore_n dX9_remove_15 rfl (by decide) ?_
  exact g_lv (loop (c * 4 - item * 4) (5 + item * 4) _ (by omega) (by omega) (by rw [m_rm_0]; exact hM) hoff) ⟨rfl, rfl, rfl, trivial⟩

theorem m_se {σ : s_D} {cnt cp c : Nat} (ok : d_ok σ cnt cp) (hc : c ≤ 100) : r_se (u_best σ cnt c) = if r_st (u_best σ cnt c) = -1 then 0 else r_st (u_best σ cnt c) := by
  obtain ⟨h1, h2⟩ := m_best ok hc
  by_cases e : u_best σ cnt c = r_NP
  · rw [if_pos (h1.mpr e), e]; rfl
  · rw [if_neg (fun z => e (h1.mp z)), (h2 e).2.2]
def m_bk0 (w : Nat → Int32) (a b : Int32) : Nat → Int32 := upd (upd (upd w 2 (w 2 + 1)) 3 (w 3 + a)) 4 (w 4 + b)
theorem m_D_bk0 {w : Nat → Int32} {cnt : Nat} {tk : Int32} : d_eq cnt (m_D (m_bk0 w (d_tot ((m_D w).1 0) tk cnt) (d_tot (d_wt (m_D w)) tk cnt))) (d_bk0 (m_D w) tk cnt) := by
  have hi : ∀ a b, (m_D (m_bk0 w a b)).1 = (m_D w).1 := fun a b => by unfold m_bk0; rw [m_D_hd (by omega), m_D_hd (by omega), m_D_hd (by omega)]
  refine d_eq_mk ?_ ?_ ?_ ?_ ?_ (fun j hj => by rw [hi]; exact ⟨rfl, rfl, rfl, rfl⟩)
  · show m_bk0 w (d_tot ((m_D w).1 0) tk cnt) (d_tot (d_wt (m_D w)) tk cnt) 1 = w 1
    unfold m_bk0
    rw [upd_ne (by omega), upd_ne (by omega), upd_ne (by omega)]
  · show m_bk0 w (d_tot ((m_D w).1 0) tk cnt) (d_tot (d_wt (m_D w)) tk cnt) 0 = w 0
    unfold m_bk0
    rw [upd_ne (by omega), upd_ne (by omega), upd_ne (by omega)]
  · show m_bk0 w (d_tot ((m_D w).1 0) tk cnt) (d_tot (d_wt (m_D w)) tk cnt) 2 = w 2 + 1
    unfold m_bk0
    rw [upd_ne (by omega), upd_ne (by omega), upd_at]
  · show m_bk0 w (d_tot ((m_D w).1 0) tk cnt) (d_tot (d_wt (m_D w)) tk cnt) 3 = w 3 + d_tot ((m_D w).1 0) tk cnt
    unfold m_bk0
    rw [upd_ne (by omega), upd_at]
  · show m_bk0 w (d_tot ((m_D w).1 0) tk cnt) (d_tot (d_wt (m_D w)) tk cnt) 4 = w 4 + d_tot (d_wt (m_D w)) tk cnt
    unfold m_bk0
    rw [upd_at]
theorem m_age_s {σ : s_D} {w9 : Nat → Int32} {cnt k : Nat} {tk x : Int32} (he : d_eq cnt (m_D w9) (d_age σ tk k)) (hx : x = if s_bit tk (nI k) = 0 then (if σ.1 2 k < 9 then σ.1 2 k + 1 else σ.1 2 k) else 0) : d_eq cnt (m_D (upd w9 (5 + k * 4 + 2) x)) (d_age σ tk (k + 1)) := by
  have h1 := (m_D_put (w := w9) (i := k) (f := 2) (x := x) (cnt := cnt) (by omega)).tr (he.put (i := k) (x := x) (f := 2) (by omega))
  refine h1.tr (d_eq_mk rfl rfl rfl rfl rfl (fun j hj => ⟨rfl, rfl, ?_, rfl⟩))
  show (if j = k then x else d_ag (σ.1 2) tk k j) = d_ag (σ.1 2) tk (k + 1) j
  unfold d_ag
  by_cases e : j = k
  · subst e; rw [if_pos rfl, if_pos (by omega), hx]
  · rw [if_neg e]
    by_cases e2 : j < k
    · rw [if_pos e2, if_pos (show j < k + 1 by omega)]
    · rw [if_neg e2, if_neg (show ¬ j < k + 1 by omega)]
theorem m_age_0 {σ : s_D} {cnt : Nat} {tk : Int32} : d_eq cnt σ (d_age σ tk 0) := d_eq_mk rfl rfl rfl rfl rfl (fun j hj => ⟨rfl, rfl, by
  show σ.1 2 j = d_ag (σ.1 2) tk 0 j
  unfold d_ag
  rw [if_neg (Nat.not_lt_zero _)], rfl⟩)

theorem c_X9_backup {h : s_H} {n m : Nat} {I w : Nat → Int32} (hM : m_at h m I w) (hn : m + 21 ≤ n) {cnt cp : Nat} (ok : d_ok (m_D w) cnt cp) (hT : m_ta h m) : s_Mt TX9_backup 0 0 [.ref m] h n (s_rp n (fun v9 h1 => v9 = some (.int (v_tk (m_D w) cnt cp)) ∧ (∃ w1, m_at h1 m I w1 ∧ d_eq cnt (m_D w1) (d_bk (m_D w) (v_tk (m_D w) cnt cp) cnt)) ∧ m_ta h1 m ∧ s_off2 h h1 (m + 1) (m + 2) (m + 18) (m + 21)) s_no) := by
  have hm := hM.1
  have hw := hM.2
  have hc := ok.1
  have h14 := ok.2.1
  have hcp := ok.2.2.1
  have h100 := ok.2.2.2.1
  have hoff : s_off2 h h (m + 1) (m + 2) (m + 18) (m + 21) := fun _ _ _ => rfl
  have loop : ∀ (r k : Nat) (h' : s_H) (w9 : Nat → Int32), k + r = cnt → m_at h' m I w9 → d_eq cnt (m_D w9) (d_age (d_bk0 (m_D w) (v_tk (m_D w) cnt cp) cnt) (v_tk (m_D w) cnt cp) k) → m_ta h' m → s_off2 h h' (m + 1) (m + 2) (m + 18) (m + 21) → s_G TX9_backup (s_rp n (fun v9 h1 => v9 = some (.int (v_tk (m_D w) cnt cp)) ∧ (∃ w1, m_at h1 m I w1 ∧ d_eq cnt (m_D w1) (d_bk (m_D w) (v_tk (m_D w) cnt cp) cnt)) ∧ m_ta h1 m ∧ s_off2 h h1 (m + 1) (m + 2) (m + 18) (m + 21)) s_no) 56 (s_lvs [(0, .ref m), (2, .int (v_tk (m_D w) cnt cp)), (3, .int (nI k))]) [] h' n 0 0 := by
    intro r
    induction r with
    | zero =>
      intro k h' w9 hk hM he hT hoff
      have hm := hM.1
      have hw := hM.2
      have hc9 : w9 1 = nI cnt := (he.1 0 (by omega)).trans hc
      refine g_iload_n dX9_backup_56 rfl (by rfl) ?_
      refine g_aload_n dX9_backup_57 rfl (by rfl) ?_
      refine g_getf dX9_backup_58 fX9_9 (by exact hm) (by omega) (by rfl) ?_
      refine g_iconst 1 dX9_backup_61 (by rfl) ?_
      refine g_iald dX9_backup_62 (by exact hw) (by omega) (show (1 : Int32) = nI 1 from rfl) (by decide) (by omega) ?_
      refine g_icmp_ge (tgt := 118) dX9_backup_63 (by decide) (fun _ => ?_) (fun c_63 => absurd (by rw [show w9 1 = nI cnt from hc9]; exact nI_le (by omega) (by omega)) c_63)
      refine g_iload_n dX9_backup_118 rfl (by rfl) ?_
      refine g_ireturn dX9_backup_119 rfl ?_
      obtain rfl : k = cnt := by omega
      exact ⟨rfl, rfl, ⟨w9, hM, he⟩, hT, hoff⟩
    | succ r ih =>
      intro k h' w9 hk hM he hT hoff
      have hm := hM.1
      have hw := hM.2
      have hc9 : w9 1 = nI cnt := (he.1 0 (by omega)).trans hc
      have hk2 : (m_D w9).1 2 k = (m_D w).1 2 k := (he.2 2 (by omega) k (by omega)).trans (if_neg (Nat.lt_irrefl k))
      have hk9 : ¬ (m_D w).1 2 k < 9 → (m_D w).1 2 k = 9 := fun z => by
        obtain ⟨-, -, ⟨a, e1, a9⟩, -⟩ := ok.2.2.2.2 k (by omega)
        rw [e1] at z ⊢
        have : ¬ a < 9 := fun q => z (nI_lt (b := 9) q (by omega))
        obtain rfl : a = 9 := by omega
        rfl
      refine g_iload_n dX9_backup_56 rfl (by rfl) ?_
      refine g_aload_n dX9_backup_57 rfl (by rfl) ?_
      refine g_getf dX9_backup_58 fX9_9 (by exact hm) (by omega) (by rfl) ?_
      refine g_iconst 1 dX9_backup_61 (by rfl) ?_
      refine g_iald dX9_backup_62 (by exact hw) (by omega) (show (1 : Int32) = nI 1 from rfl) (by decide) (by omega) ?_
      refine g_icmp_ge (tgt := 118) dX9_backup_63 (by decide) (fun c_63 => absurd c_63 (by rw [show w9 1 = nI cnt from hc9]; exact nI_ge (by omega) (by omega))) (fun _ => ?_)
      refine g_aload_n dX9_backup_66 rfl (by rfl) ?_
      refine g_iload_n dX9_backup_67 rfl (by rfl) ?_
      refine g_iconst (nI 2) dX9_backup_68 (by rfl) ?_
      refine g_callV_e (c_X9_of hM hn k 2 (by omega)) dX9_backup_69 (mX9_of) rfl lX9_73 iX9_of vX9_of (by decide) (by omega) (by exact hm) rfl rfl rfl rfl (Nat.le_of_ble_eq_true rfl) ?_
      refine g_bipush 9 dX9_backup_72 (by rfl) ?_
      refine g_icmp_ge (tgt := 88) dX9_backup_74 (by decide) (fun c_74 => ?_) (fun c_74 => ?_)
      · have hage : ¬ (m_D w).1 2 k < 9 := fun z => absurd c_74 (Int32.not_le.mpr (by rw [hk2]; exact z))
        refine g_bipush 9 dX9_backup_88 (by rfl) ?_
        refine g_istore dX9_backup_90 (by decide) ?_
        refine g_aload_n dX9_backup_92 rfl (by rfl) ?_
        refine g_iload_n dX9_backup_93 rfl (by rfl) ?_
        refine g_iconst (nI 2) dX9_backup_94 (by rfl) ?_
        refine g_iload_n dX9_backup_95 rfl (by rfl) ?_
        refine g_iload_n dX9_backup_96 rfl (by rfl) ?_
        refine g_callS_e (c_X9_has _ _) dX9_backup_97 (mX9_has) rfl lX9_80 sX9_has (by decide) rfl rfl (Nat.le_of_ble_eq_true rfl) ?_
        refine g_if_eq (tgt := 107) dX9_backup_100 (by decide) (fun c_100 => ?_) (fun c_100 => ?_)
        · have hz : s_bit (v_tk (m_D w) cnt cp) (nI k) = 0 := Classical.byContradiction fun z => by rw [if_neg z] at c_100; exact absurd c_100 (by decide)
          refine g_iload dX9_backup_107 (by rfl) ?_
          refine g_callV_p (c_X9_put hM hn k 2 (by omega) _) dX9_backup_109 (mX9_put) rfl lX9_55 iX9_put vX9_put (by decide) (by omega) (by exact hm) rfl rfl rfl rfl (Nat.le_of_ble_eq_true rfl) (fun v9 h9 z9 => ?_)
          obtain ⟨rfl, hM, qoff⟩ := z9
          have hT := hT.off qoff (by omega)
          have hoff := hoff.trans qoff.l2
          have hm := hM.1
          have hw := hM.2
          refine g_iinc (nI (k + 1)) dX9_backup_112 (by rfl) (nI_inc k) ?_
          refine g_goto (tgt := 56) dX9_backup_115 (by decide) ?_
          first
          | exact g_lv (ih (k + 1) _ _ (by omega) hM (m_age_s he (by rw [if_neg hz])) hT hoff) ⟨rfl, rfl, rfl, trivial⟩
          | exact g_lv (ih (k + 1) _ _ (by omega) hM (m_age_s he (by rw [if_pos hz, if_pos (show (d_bk0 (m_D w) (v_tk (m_D w) cnt cp) cnt).1 2 k < 9 from hage), hk2]; rfl)) hT hoff) ⟨rfl, rfl, rfl, trivial⟩
          | exact g_lv (ih (k + 1) _ _ (by omega) hM (m_age_s he (by rw [if_pos hz, if_neg (show ¬ (d_bk0 (m_D w) (v_tk (m_D w) cnt cp) cnt).1 2 k < 9 from hage)]; exact (hk9 hage).symm)) hT hoff) ⟨rfl, rfl, rfl, trivial⟩
        · have hz : ¬ s_bit (v_tk (m_D w) cnt cp) (nI k) = 0 := fun z => c_100 (by rw [if_pos z])
          refine g_iconst 0 dX9_backup_103 (by rfl) ?_
          refine g_goto (tgt := 109) dX9_backup_104 (by decide) ?_
          refine g_callV_p (c_X9_put hM hn k 2 (by omega) _) dX9_backup_109 (mX9_put) rfl lX9_55 iX9_put vX9_put (by decide) (by omega) (by exact hm) rfl rfl rfl rfl (Nat.le_of_ble_eq_true rfl) (fun v9 h9 z9 => ?_)
          obtain ⟨rfl, hM, qoff⟩ := z9
          have hT := hT.off qoff (by omega)
          have hoff := hoff.trans qoff.l2
          have hm := hM.1
          have hw := hM.2
          refine g_iinc (nI (k + 1)) dX9_backup_112 (by rfl) (nI_inc k) ?_
          refine g_goto (tgt := 56) dX9_backup_115 (by decide) ?_
          first
          | exact g_lv (ih (k + 1) _ _ (by omega) hM (m_age_s he (by rw [if_neg hz])) hT hoff) ⟨rfl, rfl, rfl, trivial⟩
          | exact g_lv (ih (k + 1) _ _ (by omega) hM (m_age_s he (by rw [if_pos hz, if_pos (show (d_bk0 (m_D w) (v_tk (m_D w) cnt cp) cnt).1 2 k < 9 from hage), hk2]; rfl)) hT hoff) ⟨rfl, rfl, rfl, trivial⟩
          | exact g_lv (ih (k + 1) _ _ (by omega) hM (m_age_s he (by rw [if_pos hz, if_neg (show ¬ (d_bk0 (m_D w) (v_tk (m_D w) cnt cp) cnt).1 2 k < 9 from hage)]; exact (hk9 hage).symm)) hT hoff) ⟨rfl, rfl, rfl, trivial⟩
      · have hage : (m_D w).1 2 k < 9 := by rw [← hk2]; exact Int32.not_le.mp c_74
        refine g_aload_n dX9_backup_77 rfl (by rfl) ?_
        refine g_iload_n dX9_backup_78 rfl (by rfl) ?_
        refine g_iconst (nI 2) dX9_backup_79 (by rfl) ?_
        refine g_callV_e (c_X9_of hM hn k 2 (by omega)) dX9_backup_80 (mX9_of) rfl lX9_73 iX9_of vX9_of (by decide) (by omega) (by exact hm) rfl rfl rfl rfl (Nat.le_of_ble_eq_true rfl) ?_
        refine g_iconst 1 dX9_backup_83 (by rfl) ?_
        refine g_iadd dX9_backup_84 ?_
        refine g_goto (tgt := 90) dX9_backup_85 (by decide) ?_
        refine g_istore dX9_backup_90 (by decide) ?_
        refine g_aload_n dX9_backup_92 rfl (by rfl) ?_
        refine g_iload_n dX9_backup_93 rfl (by rfl) ?_
        refine g_iconst (nI 2) dX9_backup_94 (by rfl) ?_
        refine g_iload_n dX9_backup_95 rfl (by rfl) ?_
        refine g_iload_n dX9_backup_96 rfl (by rfl) ?_
        refine g_callS_e (c_X9_has _ _) dX9_backup_97 (mX9_has) rfl lX9_80 sX9_has (by decide) rfl rfl (Nat.le_of_ble_eq_true rfl) ?_
        refine g_if_eq (tgt := 107) dX9_backup_100 (by decide) (fun c_100 => ?_) (fun c_100 => ?_)
        · have hz : s_bit (v_tk (m_D w) cnt cp) (nI k) = 0 := Classical.byContradiction fun z => by rw [if_neg z] at c_100; exact absurd c_100 (by decide)
          refine g_iload dX9_backup_107 (by rfl) ?_
          refine g_callV_p (c_X9_put hM hn k 2 (by omega) _) dX9_backup_109 (mX9_put) rfl lX9_55 iX9_put vX9_put (by decide) (by omega) (by exact hm) rfl rfl rfl rfl (Nat.le_of_ble_eq_true rfl) (fun v9 h9 z9 => ?_)
          obtain ⟨rfl, hM, qoff⟩ := z9
          have hT := hT.off qoff (by omega)
          have hoff := hoff.trans qoff.l2
          have hm := hM.1
          have hw := hM.2
          refine g_iinc (nI (k + 1)) dX9_backup_112 (by rfl) (nI_inc k) ?_
          refine g_goto (tgt := 56) dX9_backup_115 (by decide) ?_
          first
          | exact g_lv (ih (k + 1) _ _ (by omega) hM (m_age_s he (by rw [if_neg hz])) hT hoff) ⟨rfl, rfl, rfl, trivial⟩
          | exact g_lv (ih (k + 1) _ _ (by omega) hM (m_age_s he (by rw [if_pos hz, if_pos (show (d_bk0 (m_D w) (v_tk (m_D w) cnt cp) cnt).1 2 k < 9 from hage), hk2]; rfl)) hT hoff) ⟨rfl, rfl, rfl, trivial⟩
          | exact g_lv (ih (k + 1) _ _ (by omega) hM (m_age_s he (by rw [if_pos hz, if_neg (show ¬ (d_bk0 (m_D w) (v_tk (m_D w) cnt cp) cnt).1 2 k < 9 from hage)]; exact (hk9 hage).symm)) hT hoff) ⟨rfl, rfl, rfl, trivial⟩
        · have hz : ¬ s_bit (v_tk (m_D w) cnt cp) (nI k) = 0 := fun z => c_100 (by rw [if_pos z])
          refine g_iconst 0 dX9_backup_103 (by rfl) ?_
          refine g_goto (tgt := 109) dX9_backup_104 (by decide) ?_
          refine g_callV_p (c_X9_put hM hn k 2 (by omega) _) dX9_backup_109 (mX9_put) rfl lX9_55 iX9_put vX9_put (by decide) (by omega) (by exact hm) rfl rfl rfl rfl (Nat.le_of_ble_eq_true rfl) (fun v9 h9 z9 => ?_)
          obtain ⟨rfl, hM, qoff⟩ := z9
          have hT := hT.off qoff (by omega)
          have hoff := hoff.trans qoff.l2
          have hm := hM.1
          have hw := hM.2
          refine g_iinc (nI (k + 1)) dX9_backup_112 (by rfl) (nI_inc k) ?_
          refine g_goto (tgt := 56) dX9_backup_115 (by decide) ?_
          first
          | exact g_lv (ih (k + 1) _ _ (by omega) hM (m_age_s he (by rw [if_neg hz])) hT hoff) ⟨rfl, rfl, rfl, trivial⟩
          | exact g_lv (ih (k + 1) _ _ (by omega) hM (m_age_s he (by rw [if_pos hz, if_pos (show (d_bk0 (m_D w) (v_tk (m_D w) cnt cp) cnt).1 2 k < 9 from hage), hk2]; rfl)) hT hoff) ⟨rfl, rfl, rfl, trivial⟩
          | exact g_lv (ih (k + 1) _ _ (by omega) hM (m_age_s he (by rw [if_pos hz, if_neg (show ¬ (d_bk0 (m_D w) (v_tk (m_D w) cnt cp) cnt).1 2 k < 9 from hage)]; exact (hk9 hage).symm)) hT hoff) ⟨rfl, rfl, rfl, trivial⟩
  refine s_Mt_of rfl (by decide) (by exact Nat.le_of_ble_eq_true rfl) ?_
  refine g_aload_n dX9_backup_0 rfl (by rfl) ?_
  refine g_callV_p (c_X9_best hM hn ok hT) dX9_backup_1 (mX9_best) rfl lX9_123 iX9_best vX9_best (by decide) (by omega) (by exact hm) rfl rfl rfl rfl (Nat.le_of_ble_eq_true rfl) (fun v9 h9 z9 => ?_)
  obtain ⟨rfl, hT, qoff⟩ := z9
  have hM := hM.off qoff (by omega)
  have hm := hM.1
  have hw := hM.2
  have hoff := hoff.trans qoff.r2
  refine g_istore_n dX9_backup_4 rfl (by decide) ?_
  refine g_iload_n dX9_backup_5 rfl (by rfl) ?_
  refine g_iconst (-1) dX9_backup_6 (by rfl) ?_
  refine g_icmp_ne (tgt := 14) dX9_backup_7 (by decide) (fun c_7 => ?_) (fun c_7 => ?_)
  · have hne : ¬ r_st (u_best (m_D w) cnt cp) = -1 := c_7
    refine g_iload_n dX9_backup_14 rfl (by rfl) ?_
    refine g_istore_n dX9_backup_15 rfl (by decide) ?_
    refine g_lv (l := [(0, .ref m), (2, .int (v_tk (m_D w) cnt cp))]) ?_ ⟨rfl, by first | (show some _ = some _; rw [show (v_tk (m_D w) cnt cp) = 0 from (m_se ok h100).trans (if_pos heq)]) | (show some _ = some _; rw [show (v_tk (m_D w) cnt cp) = r_st (u_best (m_D w) cnt cp) from (m_se ok h100).trans (if_neg hne)]), trivial⟩
    refine g_aload_n dX9_backup_16 rfl (by rfl) ?_
    refine g_getf dX9_backup_17 fX9_9 (by exact hm) (by omega) (by rfl) ?_
    refine g_iconst 2 dX9_backup_20 (by rfl) ?_
    refine g_dup2 dX9_backup_21 (by rfl) (by rfl) ?_
    refine g_iald dX9_backup_22 (by exact hw) (by omega) (show (2 : Int32) = nI 2 from rfl) (by decide) (by omega) ?_
    refine g_iconst 1 dX9_backup_23 (by rfl) ?_
    refine g_iadd dX9_backup_24 ?_
    refine g_iast' dX9_backup_25 (by exact hw) (by omega) (show (2 : Int32) = nI 2 from rfl) (by decide) (by omega) (fun h31 e31 => ?_)
    first | have hm_31 := s_up_off e31 (by omega) hm | have hm_31 := s_up_at e31
    first | have hw_31 := s_up_off e31 (by omega) hw | have hw_31 := s_up_at e31
    have hM : m_at h31 m I ((upd w 2 (w 2 + 1))) := ⟨hm_31, hw_31⟩
    have qoff9 := ((s_off.rf (a := (m + 1)) (b := (m + 2))).up e31 (by omega))
    have hT := hT.off qoff9 (by omega)
    have hoff := hoff.trans qoff9.l2
    have hm := hM.1
    have hw := hM.2
    refine g_aload_n dX9_backup_26 rfl (by rfl) ?_
    refine g_getf dX9_backup_27 fX9_9 (by exact hm) (by omega) (by rfl) ?_
    refine g_iconst 3 dX9_backup_30 (by rfl) ?_
    refine g_dup2 dX9_backup_31 (by rfl) (by rfl) ?_
    refine g_iald dX9_backup_32 (by exact hw) (by omega) (show (3 : Int32) = nI 3 from rfl) (by decide) (by omega) ?_
    rw [show upd w 2 (w 2 + 1) 3 = w 3 from upd_ne (by omega)]
    refine g_aload_n dX9_backup_33 rfl (by rfl) ?_
    refine g_iload_n dX9_backup_34 rfl (by rfl) ?_
    refine g_callV_e (c_X9_sizeOfSet hM hn (cnt := cnt) ((upd_ne (by omega)).trans hc) h14 (v_tk (m_D w) cnt cp)) dX9_backup_35 (mX9_sizeOfSet) rfl lX9_96 iX9_sizeOfSet vX9_sizeOfSet (by decide) (by omega) (by exact hm) rfl rfl rfl rfl (Nat.le_of_ble_eq_true rfl) ?_
    rw [m_D_hd (by omega)]
    refine g_iadd dX9_backup_38 ?_
    refine g_iast' dX9_backup_39 (by exact hw) (by omega) (show (3 : Int32) = nI 3 from rfl) (by decide) (by omega) (fun h32 e32 => ?_)
    first | have hm_32 := s_up_off e32 (by omega) hm | have hm_32 := s_up_at e32
    first | have hw_32 := s_up_off e32 (by omega) hw | have hw_32 := s_up_at e32
    have hM : m_at h32 m I ((upd (upd w 2 (w 2 + 1)) 3 (w 3 + d_tot ((m_D w).1 0) (v_tk (m_D w) cnt cp) cnt))) := ⟨hm_32, hw_32⟩
    have qoff9 := ((s_off.rf (a := (m + 1)) (b := (m + 2))).up e32 (by omega))
    have hT := hT.off qoff9 (by omega)
    have hoff := hoff.trans qoff9.l2
    have hm := hM.1
    have hw := hM.2
    refine g_aload_n dX9_backup_40 rfl (by rfl) ?_
    refine g_getf dX9_backup_41 fX9_9 (by exact hm) (by omega) (by rfl) ?_
    refine g_iconst 4 dX9_backup_44 (by rfl) ?_
    refine g_dup2 dX9_backup_45 (by rfl) (by rfl) ?_
    refine g_iald dX9_backup_46 (by exact hw) (by omega) (show (4 : Int32) = nI 4 from rfl) (by decide) (by omega) ?_
    rw [show (upd (upd w 2 (w 2 + 1)) 3 (w 3 + d_tot ((m_D w).1 0) (v_tk (m_D w) cnt cp) cnt)) 4 = w 4 from (upd_ne (by omega)).trans (upd_ne (by omega))]
    refine g_aload_n dX9_backup_47 rfl (by rfl) ?_
    refine g_iload_n dX9_backup_48 rfl (by rfl) ?_
    refine g_callV_e (c_X9_weightOfSet hM hn (cnt := cnt) ((upd_ne (by omega)).trans ((upd_ne (by omega)).trans hc)) h14 (v_tk (m_D w) cnt cp)) dX9_backup_49 (mX9_weightOfSet) rfl lX9_111 iX9_weightOfSet vX9_weightOfSet (by decide) (by omega) (by exact hm) rfl rfl rfl rfl (Nat.le_of_ble_eq_true rfl) ?_
    rw [show d_wt (m_D (upd (upd w 2 (w 2 + 1)) 3 (w 3 + d_tot ((m_D w).1 0) (v_tk (m_D w) cnt cp) cnt))) = d_wt (m_D w) from by unfold d_wt; rw [m_D_hd (by omega), m_D_hd (by omega)]]
    refine g_iadd dX9_backup_52 ?_
    refine g_iast' dX9_backup_53 (by exact hw) (by omega) (show (4 : Int32) = nI 4 from rfl) (by decide) (by omega) (fun h33 e33 => ?_)
    first | have hm_33 := s_up_off e33 (by omega) hm | have hm_33 := s_up_at e33
    first | have hw_33 := s_up_off e33 (by omega) hw | have hw_33 := s_up_at e33
    have hM : m_at h33 m I ((m_bk0 w (d_tot ((m_D w).1 0) (v_tk (m_D w) cnt cp) cnt) (d_tot (d_wt (m_D w)) (v_tk (m_D w) cnt cp) cnt))) := ⟨hm_33, hw_33⟩
    have qoff9 := ((s_off.rf (a := (m + 1)) (b := (m + 2))).up e33 (by omega))
    have hT := hT.off qoff9 (by omega)
    have hoff := hoff.trans qoff9.l2
    have hm := hM.1
    have hw := hM.2
    refine g_iconst 0 dX9_backup_54 (by rfl) ?_
    refine g_istore_n dX9_backup_55 rfl (by decide) ?_
    exact g_lv (loop cnt 0 _ _ (by omega) hM (m_D_bk0.tr m_age_0) hT hoff) ⟨rfl, rfl, rfl, trivial⟩
  · have heq : r_st (u_best (m_D w) cnt cp) = -1 := c_7
    refine g_iconst 0 dX9_backup_10 (by rfl) ?_
    refine g_goto (tgt := 15) dX9_backup_11 (by decide) ?_
    refine g_istore_n dX9_backup_15 rfl (by decide) ?_
    refine g_lv (l := [(0, .ref m), (2, .int (v_tk (m_D w) cnt cp))]) ?_ ⟨rfl, by first | (show some _ = some _; rw [show (v_tk (m_D w) cnt cp) = 0 from (m_se ok h100).trans (if_pos heq)]) | (show some _ = some _; rw [show (v_tk (m_D w) cnt cp) = r_st (u_best (m_D w) cnt cp) from (m_se ok h100).trans (if_neg hne)]), trivial⟩
    refine g_aload_n dX9_backup_16 rfl (by rfl) ?_
    refine g_getf dX9_backup_17 fX9_9 (by exact hm) (by omega) (by rfl) ?_
    refine g_iconst 2 dX9_backup_20 (by rfl) ?_
    refine g_dup2 dX9_backup_21 (by rfl) (by rfl) ?_
    refine g_iald dX9_backup_22 (by exact hw) (by omega) (show (2 : Int32) = nI 2 from rfl) (by decide) (by omega) ?_
    refine g_iconst 1 dX9_backup_23 (by rfl) ?_
    refine g_iadd dX9_backup_24 ?_
    refine g_iast' dX9_backup_25 (by exact hw) (by omega) (show (2 : Int32) = nI 2 from rfl) (by decide) (by omega) (fun h31 e31 => ?_)
    first | have hm_31 := s_up_off e31 (by omega) hm | have hm_31 := s_up_at e31
    first | have hw_31 := s_up_off e31 (by omega) hw | have hw_31 := s_up_at e31
    have hM : m_at h31 m I ((upd w 2 (w 2 + 1))) := ⟨hm_31, hw_31⟩
    have qoff9 := ((s_off.rf (a := (m + 1)) (b := (m + 2))).up e31 (by omega))
    have hT := hT.off qoff9 (by omega)
    have hoff := hoff.trans qoff9.l2
    have hm := hM.1
    have hw := hM.2
    refine g_aload_n dX9_backup_26 rfl (by rfl) ?_
    refine g_getf dX9_backup_27 fX9_9 (by exact hm) (by omega) (by rfl) ?_
    refine g_iconst 3 dX9_backup_30 (by rfl) ?_
    refine g_dup2 dX9_backup_31 (by rfl) (by rfl) ?_
    refine g_iald dX9_backup_32 (by exact hw) (by omega) (show (3 : Int32) = nI 3 from rfl) (by decide) (by omega) ?_
    rw [show upd w 2 (w 2 + 1) 3 = w 3 from upd_ne (by omega)]
    refine g_aload_n dX9_backup_33 rfl (by rfl) ?_
    refine g_iload_n dX9_backup_34 rfl (by rfl) ?_
    refine g_callV_e (c_X9_sizeOfSet hM hn (cnt := cnt) ((upd_ne (by omega)).trans hc) h14 (v_tk (m_D w) cnt cp)) dX9_backup_35 (mX9_sizeOfSet) rfl lX9_96 iX9_sizeOfSet vX9_sizeOfSet (by decide) (by omega) (by exact hm) rfl rfl rfl rfl (Nat.le_of_ble_eq_true rfl) ?_
    rw [m_D_hd (by omega)]
    refine g_iadd dX9_backup_38 ?_
    refine g_iast' dX9_backup_39 (by exact hw) (by omega) (show (3 : Int32) = nI 3 from rfl) (by decide) (by omega) (fun h32 e32 => ?_)
    first | have hm_32 := s_up_off e32 (by omega) hm | have hm_32 := s_up_at e32
    first | have hw_32 := s_up_off e32 (by omega) hw | have hw_32 := s_up_at e32
    have hM : m_at h32 m I ((upd (upd w 2 (w 2 + 1)) 3 (w 3 + d_tot ((m_D w).1 0) (v_tk (m_D w) cnt cp) cnt))) := ⟨hm_32, hw_32⟩
    have qoff9 := ((s_off.rf (a := (m + 1)) (b := (m + 2))).up e32 (by omega))
    have hT := hT.off qoff9 (by omega)
    have hoff := hoff.trans qoff9.l2
    have hm := hM.1
    have hw := hM.2
    refine g_aload_n dX9_backup_40 rfl (by rfl) ?_
    refine g_getf dX9_backup_41 fX9_9 (by exact hm) (by omega) (by rfl) ?_
    refine g_iconst 4 dX9_backup_44 (by rfl) ?_
    refine g_dup2 dX9_backup_45 (by rfl) (by rfl) ?_
    refine g_iald dX9_backup_46 (by exact hw) (by omega) (show (4 : Int32) = nI 4 from rfl) (by decide) (by omega) ?_
    rw [show (upd (upd w 2 (w 2 + 1)) 3 (w 3 + d_tot ((m_D w).1 0) (v_tk (m_D w) cnt cp) cnt)) 4 = w 4 from (upd_ne (by omega)).trans (upd_ne (by omega))]
    refine g_aload_n dX9_backup_47 rfl (by rfl) ?_
    refine g_iload_n dX9_backup_48 rfl (by rfl) ?_
    refine g_callV_e (c_X9_weightOfSet hM hn (cnt := cnt) ((upd_ne (by omega)).trans ((upd_ne (by omega)).trans hc)) h14 (v_tk (m_D w) cnt cp)) dX9_backup_49 (mX9_weightOfSet) rfl lX9_111 iX9_weightOfSet vX9_weightOfSet (by decide) (by omega) (by exact hm) rfl rfl rfl rfl (Nat.le_of_ble_eq_true rfl) ?_
    rw [show d_wt (m_D (upd (upd w 2 (w 2 + 1)) 3 (w 3 + d_tot ((m_D w).1 0) (v_tk (m_D w) cnt cp) cnt))) = d_wt (m_D w) from by unfold d_wt; rw [m_D_hd (by omega), m_D_hd (by omega)]]
    refine g_iadd dX9_backup_52 ?_
    refine g_iast' dX9_backup_53 (by exact hw) (by omega) (show (4 : Int32) = nI 4 from rfl) (by decide) (by omega) (fun h33 e33 => ?_)
    first | have hm_33 := s_up_off e33 (by omega) hm | have hm_33 := s_up_at e33
    first | have hw_33 := s_up_off e33 (by omega) hw | have hw_33 := s_up_at e33
    have hM : m_at h33 m I ((m_bk0 w (d_tot ((m_D w).1 0) (v_tk (m_D w) cnt cp) cnt) (d_tot (d_wt (m_D w)) (v_tk (m_D w) cnt cp) cnt))) := ⟨hm_33, hw_33⟩
    have qoff9 := ((s_off.rf (a := (m + 1)) (b := (m + 2))).up e33 (by omega))
    have hT := hT.off qoff9 (by omega)
    have hoff := hoff.trans qoff9.l2
    have hm := hM.1
    have hw := hM.2
    refine g_iconst 0 dX9_backup_54 (by rfl) ?_
    refine g_istore_n dX9_backup_55 rfl (by decide) ?_
    exact g_lv (loop cnt 0 _ _ (by omega) hM (m_D_bk0.tr m_age_0) hT hoff) ⟨rfl, rfl, rfl, trivial⟩

theorem c_X9_backupAll {h : s_H} {n m : Nat} {I w : Nat → Int32} (hM : m_at h m I w) (hn : m + 21 ≤ n) {cnt cp : Nat} (ok : d_ok (m_D w) cnt cp) (hT : m_ta h m) {q : Nat} (hq : q ≤ 1000) : s_Mt TX9_backupAll 0 0 [.ref m, .int (nI q)] h n (s_rp n (fun v9 h1 => v9 = some (.int (v_un (m_D w) cnt cp q)) ∧ (∃ w1, m_at h1 m I w1 ∧ d_eq cnt (m_D w1) (v_bn (m_D w) cnt cp q)) ∧ m_ta h1 m ∧ s_off2 h h1 (m + 1) (m + 2) (m + 18) (m + 21)) s_no) := by
  have hm := hM.1
  have hw := hM.2
  have hc := ok.1
  have h14 := ok.2.1
  have hcp := ok.2.2.1
  have h100 := ok.2.2.2.1
  have loop : ∀ (r k : Nat) (h' : s_H) (w9 : Nat → Int32), k + r = q → m_at h' m I w9 → d_eq cnt (m_D w9) (v_bn (m_D w) cnt cp k) → m_ta h' m → s_off2 h h' (m + 1) (m + 2) (m + 18) (m + 21) → s_G TX9_backupAll (s_rp n (fun v9 h1 => v9 = some (.int (v_un (m_D w) cnt cp q)) ∧ (∃ w1, m_at h1 m I w1 ∧ d_eq cnt (m_D w1) (v_bn (m_D w) cnt cp q)) ∧ m_ta h1 m ∧ s_off2 h h1 (m + 1) (m + 2) (m + 18) (m + 21)) s_no) 4 (s_lvs [(0, .ref m), (1, .int (nI q)), (2, .int (v_un (m_D w) cnt cp k)), (3, .int (nI k))]) [] h' n 0 0 := by
    intro r
    induction r with
    | zero =>
      intro k h' w9 hk hM he hT hoff
      have hm := hM.1
      have hw := hM.2
      refine g_iload_n dX9_backupAll_4 rfl (by rfl) ?_
      refine g_iload_n dX9_backupAll_5 rfl (by rfl) ?_
      refine g_icmp_ge (tgt := 22) dX9_backupAll_6 (by decide) (fun _ => ?_) (fun c_6 => absurd (nI_le (by omega) (by omega)) c_6)
      refine g_iload_n dX9_backupAll_22 rfl (by rfl) ?_
      refine g_ireturn dX9_backupAll_23 rfl ?_
      obtain rfl : k = q := by omega
      exact ⟨rfl, rfl, ⟨w9, hM, he⟩, hT, hoff⟩
    | succ r ih =>
      intro k h' w9 hk hM he hT hoff
      have hm := hM.1
      have hw := hM.2
      refine g_iload_n dX9_backupAll_4 rfl (by rfl) ?_
      refine g_iload_n dX9_backupAll_5 rfl (by rfl) ?_
      refine g_icmp_ge (tgt := 22) dX9_backupAll_6 (by decide) (fun c_6 => absurd c_6 (nI_ge (by omega) (by omega))) (fun _ => ?_)
      refine g_iload_n dX9_backupAll_9 rfl (by rfl) ?_
      refine g_aload_n dX9_backupAll_10 rfl (by rfl) ?_
      refine g_callV_p (c_X9_backup hM hn (he.sy.ok (v_bn_ok ok k)) hT) dX9_backupAll_11 (mX9_backup) rfl lX9_127 iX9_backup vX9_backup (by decide) (by omega) (by exact hm) rfl rfl rfl rfl (Nat.le_of_ble_eq_true rfl) (fun v9 h9 z9 => ?_)
      obtain ⟨rfl, ⟨w8, hM, he2⟩, hT, qoff⟩ := z9
      have hm := hM.1
      have hw := hM.2
      have hoff := hoff.trans qoff
      rw [he.tk] at he2
      rw [he.tk]
      refine g_ior dX9_backupAll_14 ?_
      refine g_istore_n dX9_backupAll_15 rfl (by decide) ?_
      refine g_iinc (nI (k + 1)) dX9_backupAll_16 (by rfl) (nI_inc k) ?_
      refine g_goto (tgt := 4) dX9_backupAll_19 (by decide) ?_
      exact g_lv (ih (k + 1) _ _ (by omega) hM (he2.tr (he.bk _)) hT hoff) ⟨rfl, rfl, rfl, rfl, trivial⟩
  refine s_Mt_of rfl (by decide) (by exact Nat.le_of_ble_eq_true rfl) ?_
  refine g_iconst 0 dX9_backupAll_0 (by rfl) ?_
  refine g_istore_n dX9_backupAll_1 rfl (by decide) ?_
  refine g_iconst 0 dX9_backupAll_2 (by rfl) ?_
  refine g_istore_n dX9_backupAll_3 rfl (by decide) ?_
  exact g_lv (loop q 0 h w (by omega) hM d_eq.rf hT (fun _ _ _ => rfl)) ⟨rfl, rfl, rfl, rfl, trivial⟩
