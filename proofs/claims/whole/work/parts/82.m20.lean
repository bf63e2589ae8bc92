/-! THE MODEL: reports written -/
theorem m_R_rq {h : s_H} {m : Nat} {I w sn tx rp0 : Nat → Int32} {P : Nat → Nat → Int32} {L : List Int32} {π : s_Pl} (q : m_rq h m (upd I 0 0) w sn P tx L) (r1 : m_r1 w π) (rr : m_rr I sn P tx rp0 π) (hl : L.length ≤ 1200) : m_R h m (pl_L π L) 0 := by
  obtain ⟨rp, I1, hP, hIk, h11, hrl⟩ := q
  have e : ∀ k, k ≠ 11 → k ≠ 0 → I1 k = I k := fun k h1 h2 => (hIk k h1).trans (upd_ne h2)
  obtain ⟨⟨a1, a2⟩, ⟨b1, b2, b3⟩, ⟨c1, c2, c3⟩, ⟨d1, d2⟩, -⟩ := rr
  exact ⟨I1, w, sn, P, tx, rp, hP, (hIk 0 (by omega)).trans upd_at, r1, ⟨(e 5 (by omega) (by omega)).trans a1, a2⟩, ⟨b1, (e 3 (by omega) (by omega)).trans b2, b3⟩, ⟨c1, (e 9 (by omega) (by omega)).trans c2, c3⟩, ⟨(e 23 (by omega) (by omega)).trans d1, (e 24 (by omega) (by omega)).trans d2⟩, hl, h11, hrl⟩
/-- a new report -/
theorem m_rq_0 {h : s_H} {m : Nat} {I w sn tx rp : Nat → Int32} {P : Nat → Nat → Int32} (hP : m_pl h m (upd I 11 0) w sn P tx rp) : m_rq h m I w sn P tx [] :=
  ⟨rp, _, hP, fun k hk => upd_ne hk, upd_at, fun j hj => absurd hj (Nat.not_lt_zero j)⟩
theorem w_pr_1 (L : List Int32) (a b : Nat) : 1 ≤ (w_pr L a b).length := by
  unfold w_pr
  simp only [List.length_append, List.length_singleton]
  omega
theorem w_s_1 {st : Int32} {L : List Int32} (h : 1 ≤ L.length) : 1 ≤ (w_s st L).length := by
  unfold w_s
  split
  · rw [List.length_append]; omega
  · split
    · rw [List.length_append]; omega
    · exact h
theorem w_it_1 {σ : s_D} {pl : Int32} (i : Nat) : 1 ≤ (w_it σ pl (i + 1)).length := by
  have h := w_s_1 (st := σ.1 3 i) (w_pr_1 (w_it σ pl i) (σ.1 0 i).toNatClampNeg (d_wt σ i).toNatClampNeg)
  unfold w_it
  split
  · exact h
  · rw [List.length_append]; omega
def m_bl (i : Nat) : List Int32 := if i = 0 then [] else [32]
theorem m_it_s {σ : s_D} {pl pl2 : Int32} {i : Nat} (hp : s_bit pl (nI i) = 0 ↔ (pl2 = -1 ∨ s_bit pl2 (nI i) = 0)) : w_it σ pl (i + 1) = m_si σ i pl2 (w_it σ pl i ++ m_bl i) := by
  have e : w_pr (w_it σ pl i) (σ.1 0 i).toNatClampNeg (d_wt σ i).toNatClampNeg = w_it σ pl i ++ m_bl i ++ p_dg (k_s σ i) 7 ++ [58] ++ p_dg (k_w σ i) 7 := by
    unfold w_pr m_bl k_s k_w
    cases i with
    | zero => rfl
    | succ i =>
      have := w_it_1 (σ := σ) (pl := pl) i
      rw [if_neg (by omega), if_neg (by omega)]
  show (if s_bit pl (nI i) = 0 then _ else _) = _
  rw [e]
  unfold m_si
  by_cases z : s_bit pl (nI i) = 0
  · rw [if_pos z, if_pos (hp.mp z)]
  · rw [if_neg z, if_neg (fun q => z (hp.mpr q))]
theorem m_plan {σ : s_D} {cnt cp i : Nat} (ok : d_ok σ cnt cp) (hi : i < cnt) : s_bit (r_se (u_best σ cnt cp)) (nI i) = 0 ↔ (r_st (u_best σ cnt cp) = -1 ∨ s_bit (r_st (u_best σ cnt cp)) (nI i) = 0) := by
  have h14 := ok.2.1
  obtain ⟨h1, h2⟩ := m_best ok ok.2.2.2.1
  by_cases e : u_best σ cnt cp = r_NP
  · rw [e]
    refine ⟨fun _ => Or.inl rfl, fun _ => ?_⟩
    rw [show r_se r_NP = nI 0 from rfl, b_bit (by omega) (by omega), Nat.zero_testBit]
    rfl
  · rw [(h2 e).2.2]
    exact ⟨Or.inr, fun z => z.elim (fun z => absurd (h1.mp z) e) id⟩
theorem d_eq.it {cnt : Nat} {σ τ : s_D} {pl : Int32} (q : d_eq cnt σ τ) : ∀ i, i ≤ cnt → w_it σ pl i = w_it τ pl i
  | 0, _ => rfl
  | i + 1, h => by
    unfold w_it
    rw [q.it i (by omega), q.2 3 (by omega) i (by omega), q.2 0 (by omega) i (by omega), q.wt (by omega)]

theorem c_M_writeItems {h : s_H} {n m : Nat} {π : s_Pl} {t : Int32} (hR : m_R h m π t) (hn : m + 21 ≤ n) {cnt cp : Nat} (ok : d_ok π.1 cnt cp) : s_Mt TX9_writeItems 0 0 [.ref m] h n (s_rp n (fun v9 h1 => v9 = some (.int (nI (w_it π.1 (r_se (u_best π.1 cnt cp)) cnt).length)) ∧ m_R h1 m (pl_L π (w_it π.1 (r_se (u_best π.1 cnt cp)) cnt)) 0 ∧ s_off h h1 m (m + 21)) s_no) := by
  obtain ⟨I, w, sn, P, tx, rp, hP, -, hr1, hrr⟩ := hR
  have hM := hP.1
  have hT := hP.2.2.2.2.2.2.2
  have hm := hM.1
  have hw := hM.2
  have hoff : s_off h h m (m + 21) := s_off.rf
  have he : d_eq cnt (m_D w) π.1 := by
    obtain ⟨c9, p9, o9, e9⟩ := id hr1
    obtain rfl : c9 = cnt := o9.cn.symm.trans ok.cn
    exact e9
  have okm := he.sy.ok ok
  have hc := okm.1
  have h14 := ok.2.1
  have hcp := okm.2.2.1
  have h100 := ok.2.2.2.1
  refine s_Mt_of rfl (by decide) (by exact Nat.le_of_ble_eq_true rfl) ?_
  refine g_aload_n dX9_writeItems_0 rfl (by rfl) ?_
  refine g_iconst 0 dX9_writeItems_1 (by rfl) ?_
  refine g_putf' dX9_writeItems_2 pX9_59 (by exact hm) (by omega) (by exact Nat.le_of_ble_eq_true rfl) (by rfl) (by rfl) (fun h31 e31 => ?_)
  first | have hm_31 := s_up_off e31 (by omega) hm | have hm_31 := s_up_at e31
  first | have hw_31 := s_up_off e31 (by omega) hw | have hw_31 := s_up_at e31
  have hM := hM.th e31
  have qoff : s_off _ h31 m (m + 1) := s_off.rf.up e31 (by omega)
  have hT := hT.off qoff (by omega)
  have hP := hP.q (qoff.wide (a' := m) (b' := m + 2) (by omega) (by omega)).l2 hM hT
  have hoff := hoff.trans (qoff.wide (a' := m) (b' := m + 21) (by omega) (by omega))
  have hm := hM.1
  have hw := hM.2
  refine g_aload_n dX9_writeItems_5 rfl (by rfl) ?_
  refine g_iconst 0 dX9_writeItems_6 (by rfl) ?_
  refine g_putf' dX9_writeItems_7 pX9_312 (by exact hm) (by omega) (by exact Nat.le_of_ble_eq_true rfl) (by rfl) (by rfl) (fun h32 e32 => ?_)
  first | have hm_32 := s_up_off e32 (by omega) hm | have hm_32 := s_up_at e32
  first | have hw_32 := s_up_off e32 (by omega) hw | have hw_32 := s_up_at e32
  have qoff : s_off _ h32 m (m + 1) := s_off.rf.up e32 (by omega)
  have hP := hP.fl (I1 := upd (upd I 0 0) 11 0) qoff hm_32
  have hM := hP.1
  have hT := hP.2.2.2.2.2.2.2
  have hoff := hoff.trans (qoff.wide (a' := m) (b' := m + 21) (by omega) (by omega))
  have hm := hM.1
  have hw := hM.2
  refine g_aload_n dX9_writeItems_10 rfl (by rfl) ?_
  refine g_callV_p (c_X9_best hM hn okm hT) dX9_writeItems_11 (mX9_best) rfl lX9_123 iX9_best vX9_best (by decide) (by omega) (by exact hm) rfl rfl rfl rfl (Nat.le_of_ble_eq_true rfl) (fun v9 h9 z9 => ?_)
  obtain ⟨rfl, hT, qoff⟩ := z9
  have hM := hM.off qoff (by omega)
  have hP := hP.q qoff.r2 hM hT
  have hoff := hoff.trans (qoff.wide (a' := m) (b' := m + 21) (by omega) (by omega))
  have hm := hM.1
  have hw := hM.2
  refine g_istore_n dX9_writeItems_14 rfl (by decide) ?_
  refine g_iconst 0 dX9_writeItems_15 (by rfl) ?_
  refine g_istore_n dX9_writeItems_16 rfl (by decide) ?_
  have loop : ∀ (r k : Nat) (h' : s_H), k + r = cnt → m_rq h' m (upd I 0 0) w sn P tx (w_it (m_D w) (r_se (u_best (m_D w) cnt cp)) k) → s_off h h' m (m + 21) → s_G TX9_writeItems (s_rp n (fun v9 h1 => v9 = some (.int (nI (w_it π.1 (r_se (u_best π.1 cnt cp)) cnt).length)) ∧ m_R h1 m (pl_L π (w_it π.1 (r_se (u_best π.1 cnt cp)) cnt)) 0 ∧ s_off h h1 m (m + 21)) s_no) 17 (s_lvs [(0, .ref m), (1, .int (r_st (u_best (m_D w) cnt cp))), (2, .int (nI k))]) [] h' n 0 0 := by
    intro r
    induction r with
    | zero =>
      intro k h' hk hQ hoff
      obtain ⟨rp1, J, hP1, hIk, hI11, hrl⟩ := id hQ
      have hm := hP1.1.1
      have hw := hP1.1.2
      refine g_iload_n dX9_writeItems_17 rfl (by rfl) ?_
      refine g_aload_n dX9_writeItems_18 rfl (by rfl) ?_
      refine g_getf dX9_writeItems_19 fX9_9 (by exact hm) (by omega) (by rfl) ?_
      refine g_iconst 1 dX9_writeItems_22 (by rfl) ?_
      refine g_iald dX9_writeItems_23 (by exact hw) (by omega) (show (1 : Int32) = nI 1 from rfl) (by decide) (by omega) ?_
      refine g_icmp_ge (tgt := 49) dX9_writeItems_24 (by decide) (fun _ => ?_) (fun c_24 => absurd (by rw [show w 1 = nI cnt from hc]; exact nI_le (by omega) (by omega)) c_24)
      refine g_aload_n dX9_writeItems_49 rfl (by rfl) ?_
      refine g_getf dX9_writeItems_50 fX9_312 (by exact hm) (by omega) (by rfl) ?_
      rw [hI11]
      refine g_ireturn dX9_writeItems_53 rfl ?_
      obtain rfl : k = cnt := by omega
      have hlen := w_it_len (σ := m_D w) (pl := r_se (u_best (m_D w) k cp)) k
      have hR := m_R_rq hQ hr1 hrr (by omega)
      rw [he.it k (Nat.le_refl _), he.best] at hR ⊢
      exact ⟨rfl, rfl, hR, hoff⟩
    | succ r ih =>
      intro k h' hk hQ hoff
      have hlen := w_it_len (σ := m_D w) (pl := r_se (u_best (m_D w) cnt cp)) k
      have hblk : (m_bl k).length ≤ 1 := by unfold m_bl; split <;> simp
      have hl1 : ((w_it (m_D w) (r_se (u_best (m_D w) cnt cp)) k) ++ m_bl k).length ≤ (w_it (m_D w) (r_se (u_best (m_D w) cnt cp)) k).length + 1 := by rw [List.length_append]; omega
      obtain ⟨J, hM1⟩ := hQ.hm
      have hm := hM1.1
      have hw := hM1.2
      refine g_iload_n dX9_writeItems_17 rfl (by rfl) ?_
      refine g_aload_n dX9_writeItems_18 rfl (by rfl) ?_
      refine g_getf dX9_writeItems_19 fX9_9 (by exact hm) (by omega) (by rfl) ?_
      refine g_iconst 1 dX9_writeItems_22 (by rfl) ?_
      refine g_iald dX9_writeItems_23 (by exact hw) (by omega) (show (1 : Int32) = nI 1 from rfl) (by decide) (by omega) ?_
      refine g_icmp_ge (tgt := 49) dX9_writeItems_24 (by decide) (fun c_24 => absurd c_24 (by rw [show w 1 = nI cnt from hc]; exact nI_ge (by omega) (by omega))) (fun _ => ?_)
      refine g_iload_n dX9_writeItems_27 rfl (by rfl) ?_
      refine g_if_le (tgt := 37) dX9_writeItems_28 (by decide) (fun c_28 => ?_) (fun c_28 => ?_)
      · have hk0 : k = 0 := by
          have := (nI_lei (b := 0) (by omega) (by omega)).mp c_28
          omega
        have hQ : m_rq h' m (upd I 0 0) w sn P tx ((w_it (m_D w) (r_se (u_best (m_D w) cnt cp)) k) ++ m_bl k) := by rw [show m_bl k = [] from if_pos hk0, List.append_nil]; exact hQ
        refine g_aload_n dX9_writeItems_37 rfl (by rfl) ?_
        refine g_iload_n dX9_writeItems_38 rfl (by rfl) ?_
        refine g_iload_n dX9_writeItems_39 rfl (by rfl) ?_
        refine g_callV_p (c_X9_sayItem hQ hn okm (i := k) (by omega) (by omega)) dX9_writeItems_40 (mX9_sayItem) rfl lX9_321 iX9_sayItem vX9_sayItem (by decide) (by omega) (by exact hm) rfl rfl rfl rfl (Nat.le_of_ble_eq_true rfl) (fun v9 h9 z9 => ?_)
        obtain ⟨rfl, hQ, qoff⟩ := z9
        have hoff := hoff.trans qoff
        rw [← m_it_s (m_plan okm (by omega))] at hQ
        refine g_iinc (nI (k + 1)) dX9_writeItems_43 (by rfl) (nI_inc k) ?_
        refine g_goto (tgt := 17) dX9_writeItems_46 (by decide) ?_
        exact g_lv (ih (k + 1) _ (by omega) hQ hoff) ⟨rfl, rfl, rfl, trivial⟩
      · have hk0 : ¬ k = 0 := fun z => c_28 (by rw [z]; exact Int32.le_refl 0)
        refine g_aload_n dX9_writeItems_31 rfl (by rfl) ?_
        refine g_bipush 32 dX9_writeItems_32 (by rfl) ?_
        refine g_callV_p (c_X9_say hQ hn (by omega) 32) dX9_writeItems_34 (mX9_say) rfl lX9_315 iX9_say vX9_say (by decide) (by omega) (by exact hm) rfl rfl rfl rfl (Nat.le_of_ble_eq_true rfl) (fun v9 h9 z9 => ?_)
        obtain ⟨rfl, hQ, qoff⟩ := z9
        have hoff := hoff.trans qoff
        obtain ⟨J, hM⟩ := hQ.hm
        have hm := hM.1
        have hw := hM.2
        rw [show p_by 32 = 32 from by decide, show [32] = m_bl k from (if_neg hk0).symm] at hQ
        refine g_aload_n dX9_writeItems_37 rfl (by rfl) ?_
        refine g_iload_n dX9_writeItems_38 rfl (by rfl) ?_
        refine g_iload_n dX9_writeItems_39 rfl (by rfl) ?_
        refine g_callV_p (c_X9_sayItem hQ hn okm (i := k) (by omega) (by omega)) dX9_writeItems_40 (mX9_sayItem) rfl lX9_321 iX9_sayItem vX9_sayItem (by decide) (by omega) (by exact hm) rfl rfl rfl rfl (Nat.le_of_ble_eq_true rfl) (fun v9 h9 z9 => ?_)
        obtain ⟨rfl, hQ, qoff⟩ := z9
        have hoff := hoff.trans qoff
        rw [← m_it_s (m_plan okm (by omega))] at hQ
        refine g_iinc (nI (k + 1)) dX9_writeItems_43 (by rfl) (nI_inc k) ?_
        refine g_goto (tgt := 17) dX9_writeItems_46 (by decide) ?_
        exact g_lv (ih (k + 1) _ (by omega) hQ hoff) ⟨rfl, rfl, rfl, trivial⟩
  exact g_lv (loop cnt 0 _ (by omega) (m_rq_0 hP) hoff) ⟨rfl, rfl, rfl, trivial⟩

theorem k_cellB {σ : s_D} {cnt cp r c : Nat} (ok : d_ok σ cnt cp) (hc : c ≤ 100) : ∃ v, u_cell σ cnt r c = nI v ∧ v < 1000000 := by
  have h14 := ok.2.1
  obtain ⟨h1, h2⟩ := k_B ok (i := u_at σ r cnt) (c := c) (m_u_at σ r cnt) hc
  have := m_u_at σ r cnt
  exact ⟨_, h1, by omega⟩
theorem w_rw_1 {f : Nat → Int32} : ∀ c, 1 ≤ (w_rw f (c + 1)).length
  | 0 => by
    show 1 ≤ (if _ then _ else _ : List Int32).length
    rw [if_pos (Or.inl rfl)]
    exact w_pr_1 _ _ _
  | c + 1 => by
    have ih := w_rw_1 (f := f) c
    show 1 ≤ (if _ then _ else _ : List Int32).length
    split
    · exact w_pr_1 _ _ _
    · exact ih
theorem w_rw_y {f : Nat → Int32} {c v : Nat} (h : c = 0 ∨ f (c - 1) < f c) (hv : f c = nI v) (hv2 : v < 2147483648) : w_rw f (c + 1) = w_rw f c ++ m_bl c ++ p_dg c 7 ++ [58] ++ p_dg v 7 := by
  show (if _ then _ else _) = _
  rw [if_pos h]
  unfold w_pr
  rw [hv, nI_clamp hv2]
  congr 4
  unfold m_bl
  cases c with
  | zero => rfl
  | succ c =>
    have := w_rw_1 (f := f) c
    rw [if_neg (by omega), if_neg (by omega)]
theorem w_rw_n {f : Nat → Int32} {c : Nat} (h : ¬ (c = 0 ∨ f (c - 1) < f c)) : w_rw f (c + 1) = w_rw f c := if_neg h
theorem d_eq.rw {cnt r : Nat} {σ τ : s_D} (q : d_eq cnt σ τ) : u_cell σ cnt r = u_cell τ cnt r := funext fun c => q.cell
def m_la (f : Nat → Int32) : Nat → Int32
  | 0 => -1
  | c + 1 => f c

theorem c_M_writeRow {h : s_H} {n m : Nat} {π : s_Pl} {t : Int32} (hR : m_R h m π t) (hn : m + 21 ≤ n) {cnt cp : Nat} (ok : d_ok π.1 cnt cp) (x : Int32) : s_Mt TX9_writeRow 0 0 [.ref m, .int x] h n (s_rp n (fun v9 h1 => ((¬ (x < 0 ∨ s_bc (d_set π.1 0 cnt) < x ∨ (0 : Int32) < 0 ∨ (100 : Int32) < 0) ∧ v9 = some (.int (nI (w_rw (u_cell π.1 cnt x.toNatClampNeg) 101).length)) ∧ m_R h1 m (pl_L π (w_rw (u_cell π.1 cnt x.toNatClampNeg) 101)) 0) ∨ (¬ ¬ (x < 0 ∨ s_bc (d_set π.1 0 cnt) < x ∨ (0 : Int32) < 0 ∨ (100 : Int32) < 0) ∧ (∃ z, v9 = some (.int z)) ∧ m_R h1 m π 1)) ∧ s_off h h1 m (m + 21)) s_no) := by
  obtain ⟨I, w, sn, P, tx, rp, hP, -, hr1, hrr⟩ := hR
  have hM := hP.1
  have hT := hP.2.2.2.2.2.2.2
  have hm := hM.1
  have hw := hM.2
  have hoff : s_off h h m (m + 21) := s_off.rf
  have he : d_eq cnt (m_D w) π.1 := by
    obtain ⟨c9, p9, o9, e9⟩ := id hr1
    obtain rfl : c9 = cnt := o9.cn.symm.trans ok.cn
    exact e9
  have okm := he.sy.ok ok
  have hc := okm.1
  have h14 := ok.2.1
  have hcp := okm.2.2.1
  have h100 := ok.2.2.2.1
  refine s_Mt_of rfl (by decide) (by exact Nat.le_of_ble_eq_true rfl) ?_
  refine g_aload_n dX9_writeRow_0 rfl (by rfl) ?_
  refine g_iconst 0 dX9_writeRow_1 (by rfl) ?_
  refine g_putf' dX9_writeRow_2 pX9_59 (by exact hm) (by omega) (by exact Nat.le_of_ble_eq_true rfl) (by rfl) (by rfl) (fun h31 e31 => ?_)
  first | have hm_31 := s_up_off e31 (by omega) hm | have hm_31 := s_up_at e31
  first | have hw_31 := s_up_off e31 (by omega) hw | have hw_31 := s_up_at e31
  have hM := hM.th e31
  have qoff : s_off _ h31 m (m + 1) := s_off.rf.up e31 (by omega)
  have hT := hT.off qoff (by omega)
  have hP := hP.q (qoff.wide (a' := m) (b' := m + 2) (by omega) (by omega)).l2 hM hT
  have hoff := hoff.trans (qoff.wide (a' := m) (b' := m + 21) (by omega) (by omega))
  have hm := hM.1
  have hw := hM.2
  refine g_aload_n dX9_writeRow_5 rfl (by rfl) ?_
  refine g_iload_n dX9_writeRow_6 rfl (by rfl) ?_
  refine g_iconst 0 dX9_writeRow_7 (by rfl) ?_
  refine g_iconst 0 dX9_writeRow_8 (by rfl) ?_
  refine g_callV_p (c_X9_noCell hM hn hc h14 x 0 0) dX9_writeRow_9 (mX9_noCell) rfl lX9_289 iX9_noCell vX9_noCell (by decide) (by omega) (by exact hm) rfl rfl rfl rfl (Nat.le_of_ble_eq_true rfl) (fun v9 h9 z9 => ?_)
  obtain ⟨rfl, hM, qoff⟩ := z9
  have hT := hT.off qoff (by omega)
  have hP := hP.q (qoff.wide (a' := m) (b' := m + 2) (by omega) (by omega)).l2 hM hT
  have hoff := hoff.trans (qoff.wide (a' := m) (b' := m + 21) (by omega) (by omega))
  refine g_if_eq (tgt := 17) dX9_writeRow_12 (by decide) (fun c_12 => ?_) (fun c_12 => ?_)
  · have hin : ¬ (x < 0 ∨ s_bc (d_set (m_D w) 0 cnt) < x ∨ (0 : Int32) < 0 ∨ (100 : Int32) < 0) := fun z => by rw [if_pos z] at c_12; exact absurd c_12 (by decide)
    rw [if_neg hin] at hM hP
    rw [show d_set (m_D w) 0 cnt = d_set π.1 0 cnt from he.set'] at hin
    obtain ⟨r, hr9, rfl⟩ := nI_of (x := x) (fun z => hin (Or.inl (by first | exact z | (rw [Int32.lt_iff_toInt_lt] at z ⊢; exact Int.lt_trans z (by decide)))))
    have hnf := u_nf_le (σ := π.1) cnt
    have hr14 : r ≤ u_nf π.1 cnt := Nat.le_of_not_lt fun z => hin (Or.inr (Or.inl (by rw [s_bc_free (by omega)]; exact nI_lt z hr9)))
    have hm := hM.1
    have hw := hM.2
    refine g_aload_n dX9_writeRow_17 rfl (by rfl) ?_
    refine g_iconst 0 dX9_writeRow_18 (by rfl) ?_
    refine g_putf' dX9_writeRow_19 pX9_312 (by exact hm) (by omega) (by exact Nat.le_of_ble_eq_true rfl) (by rfl) (by rfl) (fun h32 e32 => ?_)
    first | have hm_32 := s_up_off e32 (by omega) hm | have hm_32 := s_up_at e32
    first | have hw_32 := s_up_off e32 (by omega) hw | have hw_32 := s_up_at e32
    have qoff : s_off _ h32 m (m + 1) := s_off.rf.up e32 (by omega)
    have hP := hP.fl (I1 := upd (upd I 0 0) 11 0) qoff hm_32
    have hM := hP.1
    have hT := hP.2.2.2.2.2.2.2
    have hoff := hoff.trans (qoff.wide (a' := m) (b' := m + 21) (by omega) (by omega))
    have hm := hM.1
    have hw := hM.2
    refine g_iconst (-1) dX9_writeRow_22 (by rfl) ?_
    refine g_istore_n dX9_writeRow_23 rfl (by decide) ?_
    refine g_iconst 0 dX9_writeRow_24 (by rfl) ?_
    refine g_istore_n dX9_writeRow_25 rfl (by decide) ?_
    have hlen : ∀ c, c ≤ 101 → (w_rw (u_cell (m_D w) cnt r) c).length ≤ 11 * c := w_rw_len (fun c hc => k_cellB okm hc)
    have loop : ∀ (d k : Nat) (h' : s_H), k + d = 101 → m_rq h' m (upd I 0 0) w sn P tx (w_rw (u_cell (m_D w) cnt r) k) → s_off h h' m (m + 21) → s_G TX9_writeRow (s_rp n (fun v9 h1 => ((¬ (nI r < 0 ∨ s_bc (d_set π.1 0 cnt) < nI r ∨ (0 : Int32) < 0 ∨ (100 : Int32) < 0) ∧ v9 = some (.int (nI (w_rw (u_cell π.1 cnt (nI r).toNatClampNeg) 101).length)) ∧ m_R h1 m (pl_L π (w_rw (u_cell π.1 cnt (nI r).toNatClampNeg) 101)) 0) ∨ (¬ ¬ (nI r < 0 ∨ s_bc (d_set π.1 0 cnt) < nI r ∨ (0 : Int32) < 0 ∨ (100 : Int32) < 0) ∧ (∃ z, v9 = some (.int z)) ∧ m_R h1 m π 1)) ∧ s_off h h1 m (m + 21)) s_no) 26 (s_lvs [(0, .ref m), (1, .int (nI r)), (2, .int (m_la (u_cell (m_D w) cnt r) k)), (3, .int (nI k))]) [] h' n 0 0 := by
      intro d
      induction d with
      | zero =>
        intro k h' hk hQ hoff
        have hl := hlen 101 (by omega)
        obtain ⟨rp1, J, hP1, hIk, hI11, hrl⟩ := id hQ
        have hm := hP1.1.1
        have hw := hP1.1.2
        refine g_iload_n dX9_writeRow_26 rfl (by rfl) ?_
        refine g_bipush 100 dX9_writeRow_27 (by rfl) ?_
        refine g_icmp_gt (tgt := 82) dX9_writeRow_29 (by decide) (fun _ => ?_) (fun c_29 => absurd (show nI 100 < nI k from nI_lt (by omega) (by omega)) c_29)
        refine g_aload_n dX9_writeRow_82 rfl (by rfl) ?_
        refine g_getf dX9_writeRow_83 fX9_312 (by exact hm) (by omega) (by rfl) ?_
        rw [hI11]
        refine g_ireturn dX9_writeRow_86 rfl ?_
        obtain rfl : k = 101 := by omega
        have hR := m_R_rq hQ hr1 hrr (by omega)
        rw [he.rw] at hR ⊢
        exact ⟨rfl, Or.inl ⟨hin, by rw [nI_clamp (by omega)], by rw [nI_clamp (by omega)]; exact hR⟩, hoff⟩
      | succ d ih =>
        intro k h' hk hQ hoff
        have hl := hlen k (by omega)
        have hblk : (m_bl k).length ≤ 1 := by unfold m_bl; split <;> simp
        have hl1 : ((w_rw (u_cell (m_D w) cnt r) k) ++ m_bl k).length ≤ (w_rw (u_cell (m_D w) cnt r) k).length + 1 := by rw [List.length_append]; omega
        have hpk := p_dg_len k 7
        obtain ⟨rp1, J, hP1, hIk, hI11, hrl⟩ := id hQ
        have hM := hP1.1
        have hT := hP1.2.2.2.2.2.2.2
        have hm := hM.1
        have hw := hM.2
        refine g_iload_n dX9_writeRow_26 rfl (by rfl) ?_
        refine g_bipush 100 dX9_writeRow_27 (by rfl) ?_
        refine g_icmp_gt (tgt := 82) dX9_writeRow_29 (by decide) (fun c_29 => absurd c_29 (show ¬ nI 100 < nI k from fun z => by rw [nI_lti (by omega) (by omega)] at z; omega)) (fun _ => ?_)
        refine g_aload_n dX9_writeRow_32 rfl (by rfl) ?_
        refine g_iload_n dX9_writeRow_33 rfl (by rfl) ?_
        refine g_iload_n dX9_writeRow_34 rfl (by rfl) ?_
        refine g_callV_p (c_X9_cellOf hM hn okm hT (R := r) (c := k) (by omega) (by omega)) dX9_writeRow_35 (mX9_cellOf) rfl lX9_293 iX9_cellOf vX9_cellOf (by decide) (by omega) (by exact hm) rfl rfl rfl rfl (Nat.le_of_ble_eq_true rfl) (fun v9 h9 z9 => ?_)
        obtain ⟨rfl, hT, qoff⟩ := z9
        have hM := hM.off qoff (by omega)
        have hP1 := hP1.q qoff.r2 hM hT
        have hoff := hoff.trans (qoff.wide (a' := m) (b' := m + 21) (by omega) (by omega))
        have hQ : m_rq h9 m (upd I 0 0) w sn P tx (w_rw (u_cell (m_D w) cnt r) k) := ⟨rp1, J, hP1, hIk, hI11, hrl⟩
        obtain ⟨v, hv, hv6⟩ := k_cellB okm (r := r) (c := k) (by omega)
        have hm := hM.1
        have hw := hM.2
        refine g_istore dX9_writeRow_38 (by decide) ?_
        refine g_iload dX9_writeRow_40 (by rfl) ?_
        refine g_iload_n dX9_writeRow_42 rfl (by rfl) ?_
        refine g_icmp_le (tgt := 73) dX9_writeRow_43 (by decide) (fun c_43 => ?_) (fun c_43 => ?_)
        · have hno : ¬ (k = 0 ∨ (u_cell (m_D w) cnt r) (k - 1) < (u_cell (m_D w) cnt r) k) := fun z => by
            rcases z with z | z
            · subst z
              rw [show m_la (u_cell (m_D w) cnt r) 0 = -1 from rfl, show u_cell (m_D w) cnt r 0 = nI v from hv, Int32.le_iff_toInt_le, nI_ti (by omega), show (-1 : Int32).toInt = -1 from by decide] at c_43
              omega
            · cases k with
              | zero => exact absurd (show (u_cell (m_D w) cnt r) 0 < (u_cell (m_D w) cnt r) 0 from z) Int32.lt_irrefl
              | succ k => exact absurd z (Int32.not_lt.mpr c_43)
          refine g_iload dX9_writeRow_73 (by rfl) ?_
          refine g_istore_n dX9_writeRow_75 rfl (by decide) ?_
          refine g_iinc (nI (k + 1)) dX9_writeRow_76 (by rfl) (nI_inc k) ?_
          refine g_goto (tgt := 26) dX9_writeRow_79 (by decide) ?_
          first
          | exact g_lv (ih (k + 1) _ (by omega) hQ hoff) ⟨rfl, rfl, by first | rfl | (show some _ = some _; rw [← hv]; rfl), rfl, trivial⟩
          | exact g_lv (ih (k + 1) _ (by omega) (by rw [w_rw_n hno]; exact hQ) hoff) ⟨rfl, rfl, rfl, rfl, trivial⟩
        · have hyes : k = 0 ∨ (u_cell (m_D w) cnt r) (k - 1) < (u_cell (m_D w) cnt r) k := by
            cases k with
            | zero => exact Or.inl rfl
            | succ k => exact Or.inr (Int32.not_le.mp c_43)
          refine g_iload_n dX9_writeRow_46 rfl (by rfl) ?_
          refine g_if_le (tgt := 56) dX9_writeRow_47 (by decide) (fun c_47 => ?_) (fun c_47 => ?_)
          · have hk0 : k = 0 := by
              have := (nI_lei (b := 0) (by omega) (by omega)).mp c_47
              omega
            have hQ : m_rq h9 m (upd I 0 0) w sn P tx ((w_rw (u_cell (m_D w) cnt r) k) ++ m_bl k) := by rw [show m_bl k = [] from if_pos hk0, List.append_nil]; exact hQ
            refine g_aload_n dX9_writeRow_56 rfl (by rfl) ?_
            refine g_iload_n dX9_writeRow_57 rfl (by rfl) ?_
            refine g_callV_p (c_X9_sayNumber hQ hn (v := k) (by omega) (by omega)) dX9_writeRow_58 (mX9_sayNumber) rfl lX9_318 iX9_sayNumber vX9_sayNumber (by decide) (by omega) (by exact hm) rfl rfl rfl rfl (Nat.le_of_ble_eq_true rfl) (fun v9 h9 z9 => ?_)
            obtain ⟨rfl, hQ, qoff⟩ := z9
            have hoff := hoff.trans qoff
            obtain ⟨J, hM⟩ := hQ.hm
            have hm := hM.1
            have hw := hM.2
            have hl2 : ((w_rw (u_cell (m_D w) cnt r) k) ++ m_bl k ++ p_dg k 7).length ≤ (w_rw (u_cell (m_D w) cnt r) k).length + 8 := by rw [List.length_append]; omega
            refine g_aload_n dX9_writeRow_61 rfl (by rfl) ?_
            refine g_bipush 58 dX9_writeRow_62 (by rfl) ?_
            refine g_callV_p (c_X9_say hQ hn (by omega) 58) dX9_writeRow_64 (mX9_say) rfl lX9_315 iX9_say vX9_say (by decide) (by omega) (by exact hm) rfl rfl rfl rfl (Nat.le_of_ble_eq_true rfl) (fun v9 h9 z9 => ?_)
            obtain ⟨rfl, hQ, qoff⟩ := z9
            have hoff := hoff.trans qoff
            obtain ⟨J, hM⟩ := hQ.hm
            have hm := hM.1
            have hw := hM.2
            rw [show p_by 58 = 58 from by decide] at hQ
            have hl3 : ((w_rw (u_cell (m_D w) cnt r) k) ++ m_bl k ++ p_dg k 7 ++ [58]).length ≤ (w_rw (u_cell (m_D w) cnt r) k).length + 9 := by rw [List.length_append, List.length_singleton]; omega
            refine g_aload_n dX9_writeRow_67 rfl (by rfl) ?_
            refine g_iload dX9_writeRow_68 (by rfl) ?_
            first | rw [show u_cell (m_D w) cnt r k = nI v from hv] | skip
            refine g_callV_p (c_X9_sayNumber hQ hn (v := v) (by omega) (by omega)) dX9_writeRow_70 (mX9_sayNumber) rfl lX9_318 iX9_sayNumber vX9_sayNumber (by decide) (by omega) (by exact hm) rfl rfl rfl rfl (Nat.le_of_ble_eq_true rfl) (fun v9 h9 z9 => ?_)
            obtain ⟨rfl, hQ, qoff⟩ := z9
            have hoff := hoff.trans qoff
            obtain ⟨J, hM⟩ := hQ.hm
            have hm := hM.1
            have hw := hM.2
            rw [← w_rw_y hyes hv (by omega)] at hQ
            refine g_iload dX9_writeRow_73 (by rfl) ?_
            refine g_istore_n dX9_writeRow_75 rfl (by decide) ?_
            refine g_iinc (nI (k + 1)) dX9_writeRow_76 (by rfl) (nI_inc k) ?_
            refine g_goto (tgt := 26) dX9_writeRow_79 (by decide) ?_
            first
            | exact g_lv (ih (k + 1) _ (by omega) hQ hoff) ⟨rfl, rfl, by first | rfl | (show some _ = some _; rw [← hv]; rfl), rfl, trivial⟩
            | exact g_lv (ih (k + 1) _ (by omega) (by rw [w_rw_n hno]; exact hQ) hoff) ⟨rfl, rfl, rfl, rfl, trivial⟩
          · have hk0 : ¬ k = 0 := fun z => c_47 (by rw [z]; exact Int32.le_refl 0)
            refine g_aload_n dX9_writeRow_50 rfl (by rfl) ?_
            refine g_bipush 32 dX9_writeRow_51 (by rfl) ?_
            refine g_callV_p (c_X9_say hQ hn (by omega) 32) dX9_writeRow_53 (mX9_say) rfl lX9_315 iX9_say vX9_say (by decide) (by omega) (by exact hm) rfl rfl rfl rfl (Nat.le_of_ble_eq_true rfl) (fun v9 h9 z9 => ?_)
            obtain ⟨rfl, hQ, qoff⟩ := z9
            have hoff := hoff.trans qoff
            obtain ⟨J, hM⟩ := hQ.hm
            have hm := hM.1
            have hw := hM.2
            rw [show p_by 32 = 32 from by decide, show [32] = m_bl k from (if_neg hk0).symm] at hQ
            refine g_aload_n dX9_writeRow_56 rfl (by rfl) ?_
            refine g_iload_n dX9_writeRow_57 rfl (by rfl) ?_
            refine g_callV_p (c_X9_sayNumber hQ hn (v := k) (by omega) (by omega)) dX9_writeRow_58 (mX9_sayNumber) rfl lX9_318 iX9_sayNumber vX9_sayNumber (by decide) (by omega) (by exact hm) rfl rfl rfl rfl (Nat.le_of_ble_eq_true rfl) (fun v9 h9 z9 => ?_)
            obtain ⟨rfl, hQ, qoff⟩ := z9
            have hoff := hoff.trans qoff
            obtain ⟨J, hM⟩ := hQ.hm
            have hm := hM.1
            have hw := hM.2
            have hl2 : ((w_rw (u_cell (m_D w) cnt r) k) ++ m_bl k ++ p_dg k 7).length ≤ (w_rw (u_cell (m_D w) cnt r) k).length + 8 := by rw [List.length_append]; omega
            refine g_aload_n dX9_writeRow_61 rfl (by rfl) ?_
            refine g_bipush 58 dX9_writeRow_62 (by rfl) ?_
            refine g_callV_p (c_X9_say hQ hn (by omega) 58) dX9_writeRow_64 (mX9_say) rfl lX9_315 iX9_say vX9_say (by decide) (by omega) (by exact hm) rfl rfl rfl rfl (Nat.le_of_ble_eq_true rfl) (fun v9 h9 z9 => ?_)
            obtain ⟨rfl, hQ, qoff⟩ := z9
            have hoff := hoff.trans qoff
            obtain ⟨J, hM⟩ := hQ.hm
            have hm := hM.1
            have hw := hM.2
            rw [show p_by 58 = 58 from by decide] at hQ
            have hl3 : ((w_rw (u_cell (m_D w) cnt r) k) ++ m_bl k ++ p_dg k 7 ++ [58]).length ≤ (w_rw (u_cell (m_D w) cnt r) k).length + 9 := by rw [List.length_append, List.length_singleton]; omega
            refine g_aload_n dX9_writeRow_67 rfl (by rfl) ?_
            refine g_iload dX9_writeRow_68 (by rfl) ?_
            first | rw [show u_cell (m_D w) cnt r k = nI v from hv] | skip
            refine g_callV_p (c_X9_sayNumber hQ hn (v := v) (by omega) (by omega)) dX9_writeRow_70 (mX9_sayNumber) rfl lX9_318 iX9_sayNumber vX9_sayNumber (by decide) (by omega) (by exact hm) rfl rfl rfl rfl (Nat.le_of_ble_eq_true rfl) (fun v9 h9 z9 => ?_)
            obtain ⟨rfl, hQ, qoff⟩ := z9
            have hoff := hoff.trans qoff
            obtain ⟨J, hM⟩ := hQ.hm
            have hm := hM.1
            have hw := hM.2
            rw [← w_rw_y hyes hv (by omega)] at hQ
            refine g_iload dX9_writeRow_73 (by rfl) ?_
            refine g_istore_n dX9_writeRow_75 rfl (by decide) ?_
            refine g_iinc (nI (k + 1)) dX9_writeRow_76 (by rfl) (nI_inc k) ?_
            refine g_goto (tgt := 26) dX9_writeRow_79 (by decide) ?_
            first
            | exact g_lv (ih (k + 1) _ (by omega) hQ hoff) ⟨rfl, rfl, by first | rfl | (show some _ = some _; rw [← hv]; rfl), rfl, trivial⟩
            | exact g_lv (ih (k + 1) _ (by omega) (by rw [w_rw_n hno]; exact hQ) hoff) ⟨rfl, rfl, rfl, rfl, trivial⟩
    exact g_lv (loop 101 0 _ (by omega) (m_rq_0 hP) hoff) ⟨rfl, rfl, rfl, rfl, trivial⟩
  · have hno : (x < 0 ∨ s_bc (d_set (m_D w) 0 cnt) < x ∨ (0 : Int32) < 0 ∨ (100 : Int32) < 0) := Classical.byContradiction fun z => c_12 (by rw [if_neg z])
    rw [if_pos hno] at hM hP
    have hin : ¬ ¬ (x < 0 ∨ s_bc (d_set π.1 0 cnt) < x ∨ (0 : Int32) < 0 ∨ (100 : Int32) < 0) := fun z => z (by rw [← he.set']; exact hno)
    have hm := hM.1
    have hw := hM.2
    refine g_iconst 0 dX9_writeRow_15 (by rfl) ?_
    refine g_ireturn dX9_writeRow_16 rfl ?_
    exact ⟨rfl, Or.inr ⟨hin, ⟨_, rfl⟩, ⟨_, _, _, _, _, _, hP, rfl, hr1, hrr⟩⟩, hoff⟩
