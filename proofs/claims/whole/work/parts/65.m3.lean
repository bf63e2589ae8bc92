/-! THE MODEL: best plans -/
theorem m_room {σ : s_D} {cnt cp c : Nat} (ok : d_ok σ cnt cp) : nI c - d_tot (σ.1 0) (d_set σ 1 cnt) cnt = nI c - nI (k_P σ cnt) := by
  have := ok.2.1
  rw [d_tot_ps (c := cnt) (by omega) cnt (Nat.le_refl _), k_ps ok cnt (Nat.le_refl _)]
  rfl
theorem k_Pb {σ : s_D} {cnt cp : Nat} (ok : d_ok σ cnt cp) : k_P σ cnt ≤ 840 := by
  have := ok.2.1
  have := (k_psb ok (t := k_p σ) cnt (Nat.le_refl _)).1
  unfold k_P
  omega
/-- the best plan as the model writes it -/
theorem m_best {σ : s_D} {cnt cp c : Nat} (ok : d_ok σ cnt cp) (hc : c ≤ 100) : (r_st (u_best σ cnt c) = -1 ↔ u_best σ cnt c = r_NP) ∧ (¬ u_best σ cnt c = r_NP → d_tot (d_wt σ) (r_st (u_best σ cnt c)) cnt = r_wt (u_best σ cnt c) ∧ d_tot (σ.1 0) (r_st (u_best σ cnt c)) cnt = r_sz (u_best σ cnt c) ∧ r_se (u_best σ cnt c) = r_st (u_best σ cnt c)) := by
  have h14 := ok.2.1
  by_cases hr : k_P σ cnt ≤ c
  · obtain ⟨h1, h2, h3, h4, h5⟩ := k_tell ok hc hr
    have hM := ka_M14 (t := k_T σ cnt (c - k_P σ cnt)) h14
    refine ⟨⟨fun z => ?_, fun z => absurd z h5⟩, fun _ => ?_⟩
    · rw [h3] at z
      have := congrArg Int32.toInt z
      rw [nI_ti (by omega)] at this
      have e : (-1 : Int32).toInt = -1 := by decide
      omega
    · rw [h1, h2, h3, h4, k_totw ok, k_tot0 ok]
      exact ⟨rfl, rfl, rfl⟩
  · have h5 := k_none ok hc (by omega)
    exact ⟨⟨fun _ => h5, fun _ => by rw [h5]; rfl⟩, fun z => absurd h5 z⟩
theorem m_wt_NP : r_wt r_NP = -1 := if_pos rfl
theorem m_sz_NP : r_sz r_NP = -1 := if_pos rfl
/-- a field is set: the disk behind it -/
theorem m_D_put {w : Nat → Int32} {i f : Nat} {x : Int32} {cnt : Nat} (hf : f < 4) : d_eq cnt (m_D (upd w (5 + i * 4 + f) x)) (d_put (m_D w) f i x) := by
  refine ⟨fun k hk => ?_, fun g hg j hj => ?_⟩
  · have e : ∀ a, a < 5 → upd w (5 + i * 4 + f) x a = w a := fun a ha => if_neg (by omega)
    show d_mk _ _ _ _ _ k = d_mk _ _ _ _ _ k
    rw [e 1 (by omega), e 0 (by omega), e 2 (by omega), e 3 (by omega), e 4 (by omega)]
  · show (if 5 + j * 4 + g = 5 + i * 4 + f then x else w (5 + j * 4 + g)) = (if g = f then upd ((m_D w).1 f) i x else (m_D w).1 g) j
    by_cases e : g = f
    · subst e
      rw [if_pos rfl]
      show _ = (if j = i then x else w (5 + j * 4 + g))
      by_cases e2 : j = i
      · rw [if_pos e2, if_pos (by omega)]
      · rw [if_neg e2, if_neg (by omega)]
    · rw [if_neg e, if_neg (by omega)]
      rfl

theorem c_X9_bestExact {h : s_H} {n m : Nat} {I w : Nat → Int32} (hM : m_at h m I w) (hn : m + 21 ≤ n) {F : Nat → Int × Nat × Nat} (hT : m_tb h m F) (hB : ∀ x, x ≤ 100 → -1 ≤ (F x).1 ∧ (F x).1 ≤ 1000000) {r : Nat} (hr : r ≤ 100) : s_Mt TX9_bestExact 0 0 [.ref m, .int (nI r)] h n (s_re (some (.int (nI (ka_be (fun x => (F x).1) r)))) h n) := by
  have hm := hM.1
  obtain ⟨a, b, c, ⟨ha, -, -⟩, hF⟩ := hT
  have loop : ∀ (d k : Nat), k + d = r → s_G TX9_bestExact (s_re (some (.int (nI (ka_be (fun x => (F x).1) r)))) h n) 4 (s_lvs [(0, .ref m), (1, .int (nI r)), (2, .int (nI (ka_be (fun x => (F x).1) k))), (3, .int (nI (k + 1)))]) [] h n 0 0 := by
    intro d
    induction d with
    | zero =>
      intro k hk
      obtain rfl : k = r := by omega
      refine g_iload_n dX9_bestExact_4 rfl (by rfl) ?_
      refine g_iload_n dX9_bestExact_5 rfl (by rfl) ?_
      refine g_icmp_gt (tgt := 36) dX9_bestExact_6 (by decide) (fun _ => ?_) (fun c_6 => absurd (show nI k < nI (k + 1) from nI_lt (by omega) (by omega)) c_6)
      refine g_iload_n dX9_bestExact_36 rfl (by rfl) ?_
      refine g_ireturn dX9_bestExact_37 rfl ?_
      exact ⟨rfl, rfl, rfl⟩
    | succ d ih =>
      intro k hk
      refine g_iload_n dX9_bestExact_4 rfl (by rfl) ?_
      refine g_iload_n dX9_bestExact_5 rfl (by rfl) ?_
      refine g_icmp_gt (tgt := 36) dX9_bestExact_6 (by decide) (fun c_6 => absurd c_6 (show ¬ nI r < nI (k + 1) from fun z => by rw [Int32.lt_iff_toInt_lt, nI_ti (by omega), nI_ti (by omega)] at z; omega)) (fun _ => ?_)
      refine g_aload_n dX9_bestExact_9 rfl (by rfl) ?_
      refine g_getf dX9_bestExact_10 fX9_34 (by exact hm) (by omega) (by rfl) ?_
      refine g_iload_n dX9_bestExact_13 rfl (by rfl) ?_
      refine g_iald dX9_bestExact_14 (by exact ha) (by omega) (by rfl) (by omega) (by omega) ?_
      refine g_aload_n dX9_bestExact_15 rfl (by rfl) ?_
      refine g_getf dX9_bestExact_16 fX9_34 (by exact hm) (by omega) (by rfl) ?_
      refine g_iload_n dX9_bestExact_19 rfl (by rfl) ?_
      refine g_iald dX9_bestExact_20 (by exact ha) (by omega) (by rfl) (by have := (ka_be_ok (f := fun x => (F x).1) k).1; omega) (by omega) ?_
      have hk1 := (hF (k + 1) (by omega)).1
      have hbk := ka_be_ok (f := fun x => (F x).1) k
      have hk2 := (hF (ka_be (fun x => (F x).1) k) (by omega)).1
      have b1 := hB (k + 1) (by omega)
      have b2 := hB (ka_be (fun x => (F x).1) k) (by omega)
      refine g_icmp_le (tgt := 28) dX9_bestExact_21 (by decide) (fun c_21 => ?_) (fun c_21 => ?_)
      · have hle : ¬ (F (ka_be (fun x => (F x).1) k)).1 < (F (k + 1)).1 := by
          rw [hk1, hk2, kI_le (by omega) (by omega) (by omega) (by omega)] at c_21
          omega
        refine g_iload_n dX9_bestExact_28 rfl (by rfl) ?_
        refine g_istore_n dX9_bestExact_29 rfl (by decide) ?_
        refine g_iinc (nI (k + 2)) dX9_bestExact_30 (by rfl) (nI_inc (k + 1)) ?_
        refine g_goto (tgt := 4) dX9_bestExact_33 (by decide) ?_
        refine g_lv (ih (k + 1) (by omega)) ⟨rfl, rfl, ?_, rfl, trivial⟩
        show some _ = some _
        first | rw [show ka_be (fun x => (F x).1) (k + 1) = k + 1 from if_pos hlt] | rw [show ka_be (fun x => (F x).1) (k + 1) = ka_be (fun x => (F x).1) k from if_neg hle]
      · have hlt : (F (ka_be (fun x => (F x).1) k)).1 < (F (k + 1)).1 := by
          rw [hk1, hk2, kI_le (by omega) (by omega) (by omega) (by omega)] at c_21
          omega
        refine g_iload_n dX9_bestExact_24 rfl (by rfl) ?_
        refine g_goto (tgt := 29) dX9_bestExact_25 (by decide) ?_
        refine g_istore_n dX9_bestExact_29 rfl (by decide) ?_
        refine g_iinc (nI (k + 2)) dX9_bestExact_30 (by rfl) (nI_inc (k + 1)) ?_
        refine g_goto (tgt := 4) dX9_bestExact_33 (by decide) ?_
        refine g_lv (ih (k + 1) (by omega)) ⟨rfl, rfl, ?_, rfl, trivial⟩
        show some _ = some _
        first | rw [show ka_be (fun x => (F x).1) (k + 1) = k + 1 from if_pos hlt] | rw [show ka_be (fun x => (F x).1) (k + 1) = ka_be (fun x => (F x).1) k from if_neg hle]
  refine s_Mt_of rfl (by decide) (by exact Nat.le_of_ble_eq_true rfl) ?_
  refine g_iconst 0 dX9_bestExact_0 (by rfl) ?_
  refine g_istore_n dX9_bestExact_1 rfl (by decide) ?_
  refine g_iconst 1 dX9_bestExact_2 (by rfl) ?_
  refine g_istore_n dX9_bestExact_3 rfl (by decide) ?_
  exact g_lv (loop r 0 (by omega)) ⟨rfl, rfl, rfl, rfl, trivial⟩

theorem c_X9_fillTable {h : s_H} {n m : Nat} {I w : Nat → Int32} (hM : m_at h m I w) (hn : m + 21 ≤ n) {cnt cp : Nat} (ok : d_ok (m_D w) cnt cp) (hT : m_ta h m) {R : Nat} (hR14 : R ≤ 14) : s_Mt TX9_fillTable 0 0 [.ref m, .int (nI R)] h n (s_rp n (fun v9 h1 => v9 = none ∧ m_tb h1 m (k_mt (m_D w) (u_at (m_D w) R cnt)) ∧ s_off h h1 (m + 18) (m + 21)) s_no) := by
  have hm := hM.1
  have hw := hM.2
  have hoff : s_off h h (m + 18) (m + 21) := s_off.rf
  have hc := ok.1
  have h14 := ok.2.1
  have hcp := ok.2.2.1
  have h100 := ok.2.2.2.1
  have loop : ∀ (d i : Nat) (h' : s_H), i + d = cnt → m_at h' m I w → m_tb h' m (k_mt (m_D w) i) → s_off h h' (m + 18) (m + 21) → u_nf (m_D w) i ≤ R → s_G TX9_fillTable (s_rp n (fun v9 h1 => v9 = none ∧ m_tb h1 m (k_mt (m_D w) (u_at (m_D w) R cnt)) ∧ s_off h h1 (m + 18) (m + 21)) s_no) 8 (s_lvs [(0, .ref m), (1, .int (nI R)), (2, .int (nI (u_nf (m_D w) i))), (3, .int (nI i))]) [] h' n 0 0 := by
    intro d
    induction d with
    | zero =>
      intro i h' hi hM hT hoff hR
      obtain rfl : i = cnt := by omega
      have hm := hM.1
      have hw := hM.2
      refine g_iload_n dX9_fillTable_8 rfl (by rfl) ?_
      refine g_aload_n dX9_fillTable_9 rfl (by rfl) ?_
      refine g_getf dX9_fillTable_10 fX9_9 (by exact hm) (by omega) (by rfl) ?_
      refine g_iconst 1 dX9_fillTable_13 (by rfl) ?_
      refine g_iald dX9_fillTable_14 (by exact hw) (by omega) (show (1 : Int32) = nI 1 from rfl) (by decide) (by omega) ?_
      refine g_icmp_ge (tgt := 46) dX9_fillTable_15 (by decide) (fun _ => ?_) (fun c_15 => absurd (by rw [show w 1 = nI i from hc]; exact nI_le (Nat.le_refl _) (by omega)) c_15)
      refine g_vreturn dX9_fillTable_46 rfl ?_
      exact ⟨rfl, rfl, by rw [u_at_full i hR]; exact hT, hoff⟩
    | succ d ih =>
      intro i h' hi hM hT hoff hR
      have hm := hM.1
      have hw := hM.2
      refine g_iload_n dX9_fillTable_8 rfl (by rfl) ?_
      refine g_aload_n dX9_fillTable_9 rfl (by rfl) ?_
      refine g_getf dX9_fillTable_10 fX9_9 (by exact hm) (by omega) (by rfl) ?_
      refine g_iconst 1 dX9_fillTable_13 (by rfl) ?_
      refine g_iald dX9_fillTable_14 (by exact hw) (by omega) (show (1 : Int32) = nI 1 from rfl) (by decide) (by omega) ?_
      refine g_icmp_ge (tgt := 46) dX9_fillTable_15 (by decide) (fun c_15 => absurd c_15 (by rw [show w 1 = nI cnt from hc]; exact nI_ge (by omega) (by omega))) (fun _ => ?_)
      refine g_iload_n dX9_fillTable_18 rfl (by rfl) ?_
      refine g_iload_n dX9_fillTable_19 rfl (by rfl) ?_
      refine g_icmp_ge (tgt := 46) dX9_fillTable_20 (by decide) (fun c_20 => ?_) (fun c_20 => ?_)
      · have hge : u_nf (m_D w) i = R := by
          have : ¬ u_nf (m_D w) i < R := fun z => absurd c_20 (Int32.not_le.mpr (nI_lt z (by omega)))
          omega
        refine g_vreturn dX9_fillTable_46 rfl ?_
        exact ⟨rfl, rfl, by rw [← m_at_mt (show i ≤ cnt by omega) hge]; exact hT, hoff⟩
      · have hlt : u_nf (m_D w) i < R := Nat.lt_of_not_le fun z => c_20 (nI_le z (by have := u_nf_le (σ := m_D w) i; omega))
        refine g_aload_n dX9_fillTable_23 rfl (by rfl) ?_
        refine g_iload_n dX9_fillTable_24 rfl (by rfl) ?_
        refine g_iconst 0 dX9_fillTable_25 (by rfl) ?_
        refine g_callV_e (c_X9_is hM hn i (by omega) 0) dX9_fillTable_26 (mX9_is) rfl lX9_76 iX9_is vX9_is (by decide) (by omega) (by exact hm) rfl rfl rfl rfl (Nat.le_of_ble_eq_true rfl) ?_
        refine g_if_eq (tgt := 40) dX9_fillTable_29 (by decide) (fun c_29 => ?_) (fun c_29 => ?_)
        · have hf : ¬ (m_D w).1 3 i = 0 := fun z => by rw [if_pos z] at c_29; exact absurd c_29 (by decide)
          refine g_iinc (nI (i + 1)) dX9_fillTable_40 (by rfl) (nI_inc i) ?_
          refine g_goto (tgt := 8) dX9_fillTable_43 (by decide) ?_
          by_cases hf0 : (m_D w).1 3 i = 0
          · have e : u_nf (m_D w) (i + 1) = u_nf (m_D w) i + 1 := by simp only [u_nf, if_pos hf0]
            first | exact absurd hf0 hf | exact g_lv (ih (i + 1) _ (by omega) hM hT hoff (by omega)) ⟨rfl, rfl, by rw [e]; rfl, rfl, trivial⟩
          · have e : u_nf (m_D w) (i + 1) = u_nf (m_D w) i := by simp only [u_nf, if_neg hf0]
            have e2 : k_mt (m_D w) i = k_mt (m_D w) (i + 1) := m_mt_nf (by omega) e.symm
            first | exact absurd hf hf0 | exact g_lv (ih (i + 1) _ (by omega) hM (by rw [← e2]; exact hT) hoff (by omega)) ⟨rfl, rfl, by rw [e]; rfl, rfl, trivial⟩
        · have hf : (m_D w).1 3 i = 0 := Classical.byContradiction fun z => c_29 (by rw [if_neg z])
          refine g_aload_n dX9_fillTable_32 rfl (by rfl) ?_
          refine g_iload_n dX9_fillTable_33 rfl (by rfl) ?_
          refine g_callV_p (c_X9_take hM hn ok (by omega) hf hT) dX9_fillTable_34 (mX9_take) rfl lX9_90 iX9_take vX9_take (by decide) (by omega) (by exact hm) rfl rfl rfl rfl (Nat.le_of_ble_eq_true rfl) (fun v9 h9 z9 => ?_)
          obtain ⟨rfl, hT, qoff⟩ := z9
          have hM := hM.off qoff (by omega)
          have hm := hM.1
          have hw := hM.2
          have hoff := hoff.trans qoff
          refine g_iinc (nI (u_nf (m_D w) i + 1)) dX9_fillTable_37 (by rfl) (nI_inc _) ?_
          refine g_iinc (nI (i + 1)) dX9_fillTable_40 (by rfl) (nI_inc i) ?_
          refine g_goto (tgt := 8) dX9_fillTable_43 (by decide) ?_
          by_cases hf0 : (m_D w).1 3 i = 0
          · have e : u_nf (m_D w) (i + 1) = u_nf (m_D w) i + 1 := by simp only [u_nf, if_pos hf0]
            first | exact absurd hf0 hf | exact g_lv (ih (i + 1) _ (by omega) hM hT hoff (by omega)) ⟨rfl, rfl, by rw [e]; rfl, rfl, trivial⟩
          · have e : u_nf (m_D w) (i + 1) = u_nf (m_D w) i := by simp only [u_nf, if_neg hf0]
            have e2 : k_mt (m_D w) i = k_mt (m_D w) (i + 1) := m_mt_nf (by omega) e.symm
            first | exact absurd hf hf0 | exact g_lv (ih (i + 1) _ (by omega) hM (by rw [← e2]; exact hT) hoff (by omega)) ⟨rfl, rfl, by rw [e]; rfl, rfl, trivial⟩
  refine s_Mt_of rfl (by decide) (by exact Nat.le_of_ble_eq_true rfl) ?_
  refine g_aload_n dX9_fillTable_0 rfl (by rfl) ?_
  refine g_callV_p (c_X9_clearTable hM hn hT (m_D w)) dX9_fillTable_1 (mX9_clearTable) rfl lX9_87 iX9_clearTable vX9_clearTable (by decide) (by omega) (by exact hm) rfl rfl rfl rfl (Nat.le_of_ble_eq_true rfl) (fun v9 h9 z9 => ?_)
  obtain ⟨rfl, hT, qoff⟩ := z9
  have hM := hM.off qoff (by omega)
  have hm := hM.1
  have hw := hM.2
  have hoff := hoff.trans qoff
  refine g_iconst 0 dX9_fillTable_4 (by rfl) ?_
  refine g_istore_n dX9_fillTable_5 rfl (by decide) ?_
  refine g_iconst 0 dX9_fillTable_6 (by rfl) ?_
  refine g_istore_n dX9_fillTable_7 rfl (by decide) ?_
  exact g_lv (loop cnt 0 _ (by omega) hM hT hoff (Nat.zero_le _)) ⟨rfl, rfl, rfl, rfl, trivial⟩

theorem c_X9_planFor {h : s_H} {n m : Nat} {I w : Nat → Int32} (hM : m_at h m I w) (hn : m + 21 ≤ n) {cnt cp : Nat} (ok : d_ok (m_D w) cnt cp) (hT : m_ta h m) {c : Nat} (hc100 : c ≤ 100) : s_Mt TX9_planFor 0 0 [.ref m, .int (nI c)] h n (s_rp n (fun v9 h1 => v9 = some (.int (r_st (u_best (m_D w) cnt c))) ∧ m_ta h1 m ∧ s_off h h1 (m + 18) (m + 21)) s_no) := by
  have hm := hM.1
  have hw := hM.2
  have hc := ok.1
  have h14 := ok.2.1
  have hcp := ok.2.2.1
  have h100 := ok.2.2.2.1
  have hoff : s_off h h (m + 18) (m + 21) := s_off.rf
  refine s_Mt_of rfl (by decide) (by exact Nat.le_of_ble_eq_true rfl) ?_
  refine g_aload_n dX9_planFor_0 rfl (by rfl) ?_
  refine g_iload_n dX9_planFor_1 rfl (by rfl) ?_
  refine g_callV_e (c_X9_roomFor hM hn hc h14 (nI c)) dX9_planFor_2 (mX9_roomFor) rfl lX9_99 iX9_roomFor vX9_roomFor (by decide) (by omega) (by exact hm) rfl rfl rfl rfl (Nat.le_of_ble_eq_true rfl) ?_
  rw [m_room ok]
  refine g_istore_n dX9_planFor_5 rfl (by decide) ?_
  refine g_iload_n dX9_planFor_6 rfl (by rfl) ?_
  refine g_if_ge (tgt := 12) dX9_planFor_7 (by decide) (fun c_7 => ?_) (fun c_7 => ?_)
  · have hr : k_P (m_D w) cnt ≤ c := Nat.le_of_not_lt fun z => absurd (nI_sblt z (by have := k_Pb ok; omega)) (Int32.not_lt.mpr c_7)
    refine g_aload_n dX9_planFor_12 rfl (by rfl) ?_
    refine g_bipush (nI 14) dX9_planFor_13 (by rfl) ?_
    refine g_callV_p (c_X9_fillTable hM hn ok hT (R := 14) (by omega)) dX9_planFor_15 (mX9_fillTable) rfl lX9_102 iX9_fillTable vX9_fillTable (by decide) (by omega) (by exact hm) rfl rfl rfl rfl (Nat.le_of_ble_eq_true rfl) (fun v9 h9 z9 => ?_)
    obtain ⟨rfl, hT, qoff⟩ := z9
    have hM := hM.off qoff (by omega)
    have hm := hM.1
    have hw := hM.2
    have hoff := hoff.trans qoff
    rw [u_at_full cnt (by have := u_nf_le (σ := m_D w) cnt; omega)] at hT
    obtain ⟨a, b, cc, ⟨ha, hb, hcc⟩, hF⟩ := id hT
    have hbe := (ka_be_ok (f := fun x => (k_mt (m_D w) cnt x).1) (c - k_P (m_D w) cnt)).1
    have hF9 := (hF (k_be (m_D w) cnt (c - k_P (m_D w) cnt)) (by unfold k_be; omega)).2.1
    refine g_aload_n dX9_planFor_18 rfl (by rfl) ?_
    refine g_getf dX9_planFor_19 fX9_37 (by exact hm) (by omega) (by rfl) ?_
    refine g_aload_n dX9_planFor_22 rfl (by rfl) ?_
    refine g_iload_n dX9_planFor_23 rfl (by rfl) ?_
    rw [nI_sble hr]
    refine g_callV_e (c_X9_bestExact hM hn hT (fun x _ => by have := k_mtb ok cnt (Nat.le_refl _) x; omega) (r := c - k_P (m_D w) cnt) (by omega)) dX9_planFor_24 (mX9_bestExact) rfl lX9_105 iX9_bestExact vX9_bestExact (by decide) (by omega) (by exact hm) rfl rfl rfl rfl (Nat.le_of_ble_eq_true rfl) ?_
    refine g_iald dX9_planFor_27 (by exact hb) (by omega) (by rfl) (by omega) (by omega) ?_
    refine g_aload_n dX9_planFor_28 rfl (by rfl) ?_
    refine g_iconst 1 dX9_planFor_29 (by rfl) ?_
    refine g_callV_e (c_X9_inState hM hn hc h14 1) dX9_planFor_30 (mX9_inState) rfl lX9_93 iX9_inState vX9_inState (by decide) (by omega) (by exact hm) rfl rfl rfl rfl (Nat.le_of_ble_eq_true rfl) ?_
    refine g_ior dX9_planFor_33 ?_
    refine g_ireturn dX9_planFor_34 rfl ?_
    exact ⟨rfl, by rw [k_plan ok hc100 hr, ← hF9]; rfl, hT.ta, hoff⟩
  · have hr : c < k_P (m_D w) cnt := Nat.lt_of_not_le fun z => c_7 (by rw [nI_sble z]; exact Int32.not_lt.mp (nI_pos (by omega)))
    refine g_iconst (-1) dX9_planFor_10 (by rfl) ?_
    refine g_ireturn dX9_planFor_11 rfl ?_
    exact ⟨rfl, by rw [k_none ok hc100 hr]; rfl, hT, hoff⟩

theorem c_X9_weightFor {h : s_H} {n m : Nat} {I w : Nat → Int32} (hM : m_at h m I w) (hn : m + 21 ≤ n) {cnt cp : Nat} (ok : d_ok (m_D w) cnt cp) (hT : m_ta h m) {c : Nat} (hc100 : c ≤ 100) : s_Mt TX9_weightFor 0 0 [.ref m, .int (nI c)] h n (s_rp n (fun v9 h1 => v9 = some (.int (r_wt (u_best (m_D w) cnt c))) ∧ m_ta h1 m ∧ s_off h h1 (m + 18) (m + 21)) s_no) := by
  have hm := hM.1
  have hw := hM.2
  have hc := ok.1
  have h14 := ok.2.1
  have hcp := ok.2.2.1
  have h100 := ok.2.2.2.1
  have hoff : s_off h h (m + 18) (m + 21) := s_off.rf
  refine s_Mt_of rfl (by decide) (by exact Nat.le_of_ble_eq_true rfl) ?_
  refine g_aload_n dX9_weightFor_0 rfl (by rfl) ?_
  refine g_iload_n dX9_weightFor_1 rfl (by rfl) ?_
  refine g_callV_p (c_X9_planFor hM hn ok hT hc100) dX9_weightFor_2 (mX9_planFor) rfl lX9_108 iX9_planFor vX9_planFor (by decide) (by omega) (by exact hm) rfl rfl rfl rfl (Nat.le_of_ble_eq_true rfl) (fun v9 h9 z9 => ?_)
  obtain ⟨rfl, hT, qoff⟩ := z9
  have hM := hM.off qoff (by omega)
  have hm := hM.1
  have hw := hM.2
  have hoff := hoff.trans qoff
  refine g_istore_n dX9_weightFor_5 rfl (by decide) ?_
  refine g_iload_n dX9_weightFor_6 rfl (by rfl) ?_
  refine g_iconst (-1) dX9_weightFor_7 (by rfl) ?_
  refine g_icmp_ne (tgt := 15) dX9_weightFor_8 (by decide) (fun c_8 => ?_) (fun c_8 => ?_)
  · have hnp : ¬ u_best (m_D w) cnt c = r_NP := fun z => c_8 ((m_best ok hc100).1.mpr z)
    refine g_aload_n dX9_weightFor_15 rfl (by rfl) ?_
    refine g_iload_n dX9_weightFor_16 rfl (by rfl) ?_
    refine g_callV_e (c_X9_weightOfSet hM hn hc h14 _) dX9_weightFor_17 (mX9_weightOfSet) rfl lX9_111 iX9_weightOfSet vX9_weightOfSet (by decide) (by omega) (by exact hm) rfl rfl rfl rfl (Nat.le_of_ble_eq_true rfl) ?_
    refine g_ireturn dX9_weightFor_20 rfl ?_
    first | exact ⟨rfl, by rw [hnp]; rfl, hT, hoff⟩ | exact ⟨rfl, by rw [((m_best ok hc100).2 hnp).1], hT, hoff⟩
  · have hnp : u_best (m_D w) cnt c = r_NP := (m_best ok hc100).1.mp c_8
    refine g_iconst (-1) dX9_weightFor_11 (by rfl) ?_
    refine g_goto (tgt := 20) dX9_weightFor_12 (by decide) ?_
    refine g_ireturn dX9_weightFor_20 rfl ?_
    first | exact ⟨rfl, by rw [hnp]; rfl, hT, hoff⟩ | exact ⟨rfl, by rw [((m_best ok hc100).2 hnp).1], hT, hoff⟩

theorem c_X9_best {h : s_H} {n m : Nat} {I w : Nat → Int32} (hM : m_at h m I w) (hn : m + 21 ≤ n) {cnt cp : Nat} (ok : d_ok (m_D w) cnt cp) (hT : m_ta h m) : s_Mt TX9_best 0 0 [.ref m] h n (s_rp n (fun v9 h1 => v9 = some (.int (r_st (u_best (m_D w) cnt cp))) ∧ m_ta h1 m ∧ s_off h h1 (m + 18) (m + 21)) s_no) := by
  have hm := hM.1
  have hw := hM.2
  have hc := ok.1
  have h14 := ok.2.1
  have hcp := ok.2.2.1
  have h100 := ok.2.2.2.1
  have hoff : s_off h h (m + 18) (m + 21) := s_off.rf
  refine s_Mt_of rfl (by decide) (by exact Nat.le_of_ble_eq_true rfl) ?_
  refine g_aload_n dX9_best_0 rfl (by rfl) ?_
  refine g_aload_n dX9_best_1 rfl (by rfl) ?_
  refine g_getf dX9_best_2 fX9_9 (by exact hm) (by omega) (by rfl) ?_
  refine g_iconst 0 dX9_best_5 (by rfl) ?_
  refine g_iald dX9_best_6 (by exact hw) (by omega) (show (0 : Int32) = nI 0 from rfl) (by decide) (by omega) ?_
  rw [show w 0 = nI cp from hcp]
  refine g_callV_p (c_X9_planFor hM hn ok hT h100) dX9_best_7 (mX9_planFor) rfl lX9_108 iX9_planFor vX9_planFor (by decide) (by omega) (by exact hm) rfl rfl rfl rfl (Nat.le_of_ble_eq_true rfl) (fun v9 h9 z9 => ?_)
  obtain ⟨rfl, hT, qoff⟩ := z9
  have hM := hM.off qoff (by omega)
  have hm := hM.1
  have hw := hM.2
  have hoff := hoff.trans qoff
  refine g_ireturn dX9_best_10 rfl ?_
  exact ⟨rfl, rfl, hT, hoff⟩

theorem c_X9_bestWeightNow {h : s_H} {n m : Nat} {I w : Nat → Int32} (hM : m_at h m I w) (hn : m + 21 ≤ n) {cnt cp : Nat} (ok : d_ok (m_D w) cnt cp) (hT : m_ta h m) : s_Mt TX9_bestWeightNow 0 0 [.ref m] h n (s_rp n (fun v9 h1 => v9 = some (.int (r_wt (u_best (m_D w) cnt cp))) ∧ m_ta h1 m ∧ s_off h h1 (m + 18) (m + 21)) s_no) := by
  have hm := hM.1
  have hw := hM.2
  have hc := ok.1
  have h14 := ok.2.1
  have hcp := ok.2.2.1
  have h100 := ok.2.2.2.1
  have hoff : s_off h h (m + 18) (m + 21) := s_off.rf
  refine s_Mt_of rfl (by decide) (by exact Nat.le_of_ble_eq_true rfl) ?_
  refine g_aload_n dX9_bestWeightNow_0 rfl (by rfl) ?_
  refine g_aload_n dX9_bestWeightNow_1 rfl (by rfl) ?_
  refine g_getf dX9_bestWeightNow_2 fX9_9 (by exact hm) (by omega) (by rfl) ?_
  refine g_iconst 0 dX9_bestWeightNow_5 (by rfl) ?_
  refine g_iald dX9_bestWeightNow_6 (by exact hw) (by omega) (show (0 : Int32) = nI 0 from rfl) (by decide) (by omega) ?_
  rw [show w 0 = nI cp from hcp]
  refine g_callV_p (c_X9_weightFor hM hn ok hT h100) dX9_bestWeightNow_7 (mX9_weightFor) rfl lX9_114 iX9_weightFor vX9_weightFor (by decide) (by omega) (by exact hm) rfl rfl rfl rfl (Nat.le_of_ble_eq_true rfl) (fun v9 h9 z9 => ?_)
  obtain ⟨rfl, hT, qoff⟩ := z9
  have hM := hM.off qoff (by omega)
  have hm := hM.1
  have hw := hM.2
  have hoff := hoff.trans qoff
  refine g_ireturn dX9_bestWeightNow_10 rfl ?_
  exact ⟨rfl, rfl, hT, hoff⟩

theorem c_X9_bestSizeNow {h : s_H} {n m : Nat} {I w : Nat → Int32} (hM : m_at h m I w) (hn : m + 21 ≤ n) {cnt cp : Nat} (ok : d_ok (m_D w) cnt cp) (hT : m_ta h m) : s_Mt TX9_bestSizeNow 0 0 [.ref m] h n (s_rp n (fun v9 h1 => v9 = some (.int (r_sz (u_best (m_D w) cnt cp))) ∧ m_ta h1 m ∧ s_off h h1 (m + 18) (m + 21)) s_no) := by
  have hm := hM.1
  have hw := hM.2
  have hc := ok.1
  have h14 := ok.2.1
  have hcp := ok.2.2.1
  have h100 := ok.2.2.2.1
  have hoff : s_off h h (m + 18) (m + 21) := s_off.rf
  refine s_Mt_of rfl (by decide) (by exact Nat.le_of_ble_eq_true rfl) ?_
  refine g_aload_n dX9_bestSizeNow_0 rfl (by rfl) ?_
  refine g_callV_p (c_X9_best hM hn ok hT) dX9_bestSizeNow_1 (mX9_best) rfl lX9_123 iX9_best vX9_best (by decide) (by omega) (by exact hm) rfl rfl rfl rfl (Nat.le_of_ble_eq_true rfl) (fun v9 h9 z9 => ?_)
  obtain ⟨rfl, hT, qoff⟩ := z9
  have hM := hM.off qoff (by omega)
  have hm := hM.1
  have hw := hM.2
  have hoff := hoff.trans qoff
  refine g_istore_n dX9_bestSizeNow_4 rfl (by decide) ?_
  refine g_iload_n dX9_bestSizeNow_5 rfl (by rfl) ?_
  refine g_iconst (-1) dX9_bestSizeNow_6 (by rfl) ?_
  refine g_icmp_ne (tgt := 14) dX9_bestSizeNow_7 (by decide) (fun c_7 => ?_) (fun c_7 => ?_)
  · have hnp : ¬ u_best (m_D w) cnt cp = r_NP := fun z => c_7 ((m_best ok h100).1.mpr z)
    refine g_aload_n dX9_bestSizeNow_14 rfl (by rfl) ?_
    refine g_iload_n dX9_bestSizeNow_15 rfl (by rfl) ?_
    refine g_callV_e (c_X9_sizeOfSet hM hn hc h14 _) dX9_bestSizeNow_16 (mX9_sizeOfSet) rfl lX9_96 iX9_sizeOfSet vX9_sizeOfSet (by decide) (by omega) (by exact hm) rfl rfl rfl rfl (Nat.le_of_ble_eq_true rfl) ?_
    refine g_ireturn dX9_bestSizeNow_19 rfl ?_
    first | exact ⟨rfl, by rw [hnp]; rfl, hT, hoff⟩ | exact ⟨rfl, by rw [((m_best ok h100).2 hnp).2.1], hT, hoff⟩
  · have hnp : u_best (m_D w) cnt cp = r_NP := (m_best ok h100).1.mp c_7
    refine g_iconst (-1) dX9_bestSizeNow_10 (by rfl) ?_
    refine g_goto (tgt := 19) dX9_bestSizeNow_11 (by decide) ?_
    refine g_ireturn dX9_bestSizeNow_19 rfl ?_
    first | exact ⟨rfl, by rw [hnp]; rfl, hT, hoff⟩ | exact ⟨rfl, by rw [((m_best ok h100).2 hnp).2.1], hT, hoff⟩

theorem m_u_at (σ : s_D) (r : Nat) : ∀ i, u_at σ r i ≤ i
  | 0 => Nat.le_refl _
  | i + 1 => by
    unfold u_at
    split
    · exact Nat.le_refl _
    · have := m_u_at σ r i
      omega

theorem c_X9_cellOf {h : s_H} {n m : Nat} {I w : Nat → Int32} (hM : m_at h m I w) (hn : m + 21 ≤ n) {cnt cp : Nat} (ok : d_ok (m_D w) cnt cp) (hT : m_ta h m) {R c : Nat} (hR14 : R ≤ 14) (hc100 : c ≤ 100) : s_Mt TX9_cellOf 0 0 [.ref m, .int (nI R), .int (nI c)] h n (s_rp n (fun v9 h1 => v9 = some (.int (u_cell (m_D w) cnt R c)) ∧ m_ta h1 m ∧ s_off h h1 (m + 18) (m + 21)) s_no) := by
  have hm := hM.1
  have hw := hM.2
  have hc := ok.1
  have h14 := ok.2.1
  have hcp := ok.2.2.1
  have h100 := ok.2.2.2.1
  have hoff : s_off h h (m + 18) (m + 21) := s_off.rf
  refine s_Mt_of rfl (by decide) (by exact Nat.le_of_ble_eq_true rfl) ?_
  refine g_aload_n dX9_cellOf_0 rfl (by rfl) ?_
  refine g_iload_n dX9_cellOf_1 rfl (by rfl) ?_
  refine g_callV_p (c_X9_fillTable hM hn ok hT hR14) dX9_cellOf_2 (mX9_fillTable) rfl lX9_102 iX9_fillTable vX9_fillTable (by decide) (by omega) (by exact hm) rfl rfl rfl rfl (Nat.le_of_ble_eq_true rfl) (fun v9 h9 z9 => ?_)
  obtain ⟨rfl, hT, qoff⟩ := z9
  have hM := hM.off qoff (by omega)
  have hm := hM.1
  have hw := hM.2
  have hoff := hoff.trans qoff
  have hu := m_u_at (m_D w) R cnt
  obtain ⟨a, b, cc, ⟨ha, hb, hcc⟩, hF⟩ := id hT
  have hbe := (ka_be_ok (f := fun x => (k_mt (m_D w) (u_at (m_D w) R cnt) x).1) c).1
  have hF9 := (hF (k_be (m_D w) (u_at (m_D w) R cnt) c) (by unfold k_be; omega)).1
  refine g_aload_n dX9_cellOf_5 rfl (by rfl) ?_
  refine g_getf dX9_cellOf_6 fX9_34 (by exact hm) (by omega) (by rfl) ?_
  refine g_aload_n dX9_cellOf_9 rfl (by rfl) ?_
  refine g_iload_n dX9_cellOf_10 rfl (by rfl) ?_
  refine g_callV_e (c_X9_bestExact hM hn hT (fun x _ => by have := k_mtb ok (u_at (m_D w) R cnt) hu x; omega) hc100) dX9_cellOf_11 (mX9_bestExact) rfl lX9_105 iX9_bestExact vX9_bestExact (by decide) (by omega) (by exact hm) rfl rfl rfl rfl (Nat.le_of_ble_eq_true rfl) ?_
  refine g_iald dX9_cellOf_14 (by exact ha) (by omega) (by rfl) (by omega) (by omega) ?_
  refine g_ireturn dX9_cellOf_15 rfl ?_
  exact ⟨rfl, by unfold u_cell; rw [k_cell ok hu hc100, ← hF9]; rfl, hT.ta, hoff⟩
