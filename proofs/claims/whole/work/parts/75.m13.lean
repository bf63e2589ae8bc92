/-! THE MODEL: ratios, checks, backups tried -/
theorem m_sz1 {σ : s_D} {cnt cp c : Nat} (ok : d_ok σ cnt cp) (hc : c ≤ 100) : r_sz (u_best σ cnt c) = -1 ↔ u_best σ cnt c = r_NP := by
  have h14 := ok.2.1
  by_cases hr : k_P σ cnt ≤ c
  · obtain ⟨-, h1, -, -, h5⟩ := k_tell ok hc hr
    have hb := (k_psb ok (t := k_T σ cnt (c - k_P σ cnt)) cnt (Nat.le_refl _)).1
    rw [h1]
    exact ⟨fun z => absurd z (nI_m1 (by omega)), fun z => absurd z h5⟩
  · have h5 := k_none ok hc (by omega)
    rw [h5]
    exact ⟨fun _ => rfl, fun _ => rfl⟩
theorem m_rm_np {σ : s_D} {cnt cp : Nat} (ok : d_ok σ cnt cp) : d_room σ cnt < 0 ↔ u_best σ cnt cp = r_NP := by
  have h14 := ok.2.1
  have h100 := ok.2.2.2.1
  have e : d_room σ cnt = nI cp - nI (k_P σ cnt) := by rw [d_room_eq ok, k_ps ok cnt (Nat.le_refl _)]; rfl
  by_cases hr : k_P σ cnt ≤ cp
  · rw [e, nI_sble hr]
    exact ⟨fun z => absurd z (nI_pos (by omega)), fun z => absurd z (k_tell ok h100 hr).2.2.2.2⟩
  · rw [e]
    exact ⟨fun _ => k_none ok h100 (by omega), fun _ => nI_sblt (by omega) (by have := k_Pb ok; omega)⟩
theorem m_wt_0 {σ : s_D} {cnt cp c : Nat} (ok : d_ok σ cnt cp) (hc : c ≤ 100) : r_wt (u_best σ cnt c) ≤ 0 ↔ (r_wt (u_best σ cnt c) = -1 ∨ r_wt (u_best σ cnt c) = 0) := by
  have h14 := ok.2.1
  by_cases hr : k_P σ cnt ≤ c
  · obtain ⟨h1, -, -, -, h5⟩ := k_tell ok hc hr
    have hb := (k_psb ok (t := k_T σ cnt (c - k_P σ cnt)) cnt (Nat.le_refl _)).2
    rw [h1]
    constructor
    · intro z
      right
      have := (nI_lei (b := 0) (by omega) (by omega)).mp z
      rw [show ka_sm (k_w σ) (k_T σ cnt (c - k_P σ cnt)) cnt = 0 by omega]
      rfl
    · rintro (z | z)
      · exact absurd z (nI_m1 (by omega))
      · rw [z]; exact Int32.le_refl 0
  · rw [k_none ok hc (by omega), m_wt_NP]
    exact ⟨fun _ => Or.inl rfl, fun _ => by decide⟩

theorem c_M_fill {h : s_H} {n m : Nat} {π : s_Pl} {t : Int32} (hR : m_R h m π t) (hn : m + 21 ≤ n) {cnt cp : Nat} (ok : d_ok π.1 cnt cp) : s_Mt TX9_fill 0 0 [.ref m] h n (s_rp n (fun v9 h1 => v9 = some (.double (if (u_best π.1 cnt cp = r_NP ∨ cp = 0) then FP.dconst0 else FP.ddiv (FP.i2d (r_sz (u_best π.1 cnt cp))) (FP.i2d (nI cp)))) ∧ m_R h1 m π 0 ∧ s_off h h1 m (m + 21)) s_no) := by
  obtain ⟨I, w, sn, P, tx, rp, hP, -, hr1, hrr⟩ := hR
  have hM := hP.1
  have hT := hP.2.2.2.2.2.2.2
  have hm := hM.1
  have hw := hM.2
  have hoff : s_off h h m (m + 21) := s_off.rf
  have he : d_eq cnt (m_D w) π.1 := by
    obtain ⟨c9, p9, o9, e9⟩ := id hr1
    obtain rfl : c9 = cnt := o9.cn.symm.trans ok.cn
    exact e9
  have okm := he.sy.ok ok
  have hc := okm.1
  have h14 := ok.2.1
  have hcp := okm.2.2.1
  have h100 := ok.2.2.2.1
  refine s_Mt_of rfl (by decide) (by exact Nat.le_of_ble_eq_true rfl) ?_
  refine g_aload_n dX9_fill_0 rfl (by rfl) ?_
  refine g_iconst 0 dX9_fill_1 (by rfl) ?_
  refine g_putf' dX9_fill_2 pX9_59 (by exact hm) (by omega) (by exact Nat.le_of_ble_eq_true rfl) (by rfl) (by rfl) (fun h31 e31 => ?_)
  first | have hm_31 := s_up_off e31 (by omega) hm | have hm_31 := s_up_at e31
  first | have hw_31 := s_up_off e31 (by omega) hw | have hw_31 := s_up_at e31
  have hM := hM.th e31
  have qoff : s_off _ h31 m (m + 1) := s_off.rf.up e31 (by omega)
  have hT := hT.off qoff (by omega)
  have hP := hP.q (qoff.wide (a' := m) (b' := m + 2) (by omega) (by omega)).l2 hM hT
  have hoff := hoff.trans (qoff.wide (a' := m) (b' := m + 21) (by omega) (by omega))
  have hm := hM.1
  have hw := hM.2
  refine g_aload_n dX9_fill_5 rfl (by rfl) ?_
  refine g_callV_p (c_X9_bestSizeNow hM hn okm hT) dX9_fill_6 (mX9_bestSizeNow) rfl lX9_283 iX9_bestSizeNow vX9_bestSizeNow (by decide) (by omega) (by exact hm) rfl rfl rfl rfl (Nat.le_of_ble_eq_true rfl) (fun v9 h9 z9 => ?_)
  obtain ⟨rfl, hT, qoff⟩ := z9
  have hM := hM.off qoff (by omega)
  have hP := hP.q qoff.r2 hM hT
  have hoff := hoff.trans (qoff.wide (a' := m) (b' := m + 21) (by omega) (by omega))
  have hm := hM.1
  have hw := hM.2
  refine g_istore_n dX9_fill_9 rfl (by decide) ?_
  refine g_iload_n dX9_fill_10 rfl (by rfl) ?_
  refine g_iconst (-1) dX9_fill_11 (by rfl) ?_
  refine g_icmp_eq (tgt := 24) dX9_fill_12 (by decide) (fun c_12 => ?_) (fun c_12 => ?_)
  · have hpp : u_best (m_D w) cnt cp = r_NP := (m_sz1 okm h100).mp c_12
    refine g_dconst0 dX9_fill_24 ?_
    refine g_goto (tgt := 38) dX9_fill_25 (by decide) ?_
    refine g_dreturn dX9_fill_38 rfl ?_
    rw [he.best] at *
    first | (refine ⟨rfl, ?_, ⟨_, _, _, _, _, _, hP, rfl, hr1, hrr⟩, hoff⟩; (rw [if_neg hcond])) | (refine ⟨rfl, ?_, ⟨_, _, _, _, _, _, hP, rfl, hr1, hrr⟩, hoff⟩; (rw [if_pos (Or.inl hpp)])) | (refine ⟨rfl, ?_, ⟨_, _, _, _, _, _, hP, rfl, hr1, hrr⟩, hoff⟩; (rw [if_pos (Or.inr hcz)]))
  · have hnp : ¬ u_best (m_D w) cnt cp = r_NP := fun z => c_12 ((m_sz1 okm h100).mpr z)
    refine g_aload_n dX9_fill_15 rfl (by rfl) ?_
    refine g_getf dX9_fill_16 fX9_9 (by exact hm) (by omega) (by rfl) ?_
    refine g_iconst 0 dX9_fill_19 (by rfl) ?_
    refine g_iald dX9_fill_20 (by exact hw) (by omega) (show (0 : Int32) = nI 0 from rfl) (by decide) (by omega) ?_
    rw [(show w 0 = nI cp from hcp)]
    refine g_if_ne (tgt := 28) dX9_fill_21 (by decide) (fun c_21 => ?_) (fun c_21 => ?_)
    · have hc0 : ¬ cp = 0 := fun z => c_21 (by rw [z]; rfl)
      have hcond : ¬ (u_best (m_D w) cnt cp = r_NP ∨ cp = 0) := fun z => z.elim hnp hc0
      refine g_iload_n dX9_fill_28 rfl (by rfl) ?_
      refine g_i2d dX9_fill_29 ?_
      refine g_aload_n dX9_fill_30 rfl (by rfl) ?_
      refine g_getf dX9_fill_31 fX9_9 (by exact hm) (by omega) (by rfl) ?_
      refine g_iconst 0 dX9_fill_34 (by rfl) ?_
      refine g_iald dX9_fill_35 (by exact hw) (by omega) (show (0 : Int32) = nI 0 from rfl) (by decide) (by omega) ?_
      rw [(show w 0 = nI cp from hcp)]
      refine g_i2d dX9_fill_36 ?_
      refine g_ddiv dX9_fill_37 (f_dd _ (fun z => hc0 (nI_inj (a := cp) (b := 0) (by omega) (by omega) z))) ?_
      refine g_dreturn dX9_fill_38 rfl ?_
      rw [he.best] at *
      first | (refine ⟨rfl, ?_, ⟨_, _, _, _, _, _, hP, rfl, hr1, hrr⟩, hoff⟩; (rw [if_neg hcond])) | (refine ⟨rfl, ?_, ⟨_, _, _, _, _, _, hP, rfl, hr1, hrr⟩, hoff⟩; (rw [if_pos (Or.inl hpp)])) | (refine ⟨rfl, ?_, ⟨_, _, _, _, _, _, hP, rfl, hr1, hrr⟩, hoff⟩; (rw [if_pos (Or.inr hcz)]))
    · have hcz : cp = 0 := nI_inj (a := cp) (b := 0) (by omega) (by omega) c_21
      refine g_dconst0 dX9_fill_24 ?_
      refine g_goto (tgt := 38) dX9_fill_25 (by decide) ?_
      refine g_dreturn dX9_fill_38 rfl ?_
      rw [he.best] at *
      first | (refine ⟨rfl, ?_, ⟨_, _, _, _, _, _, hP, rfl, hr1, hrr⟩, hoff⟩; (rw [if_neg hcond])) | (refine ⟨rfl, ?_, ⟨_, _, _, _, _, _, hP, rfl, hr1, hrr⟩, hoff⟩; (rw [if_pos (Or.inl hpp)])) | (refine ⟨rfl, ?_, ⟨_, _, _, _, _, _, hP, rfl, hr1, hrr⟩, hoff⟩; (rw [if_pos (Or.inr hcz)]))

theorem c_M_greedyShare {h : s_H} {n m : Nat} {π : s_Pl} {t : Int32} (hR : m_R h m π t) (hn : m + 21 ≤ n) {cnt cp : Nat} (ok : d_ok π.1 cnt cp) : s_Mt TX9_greedyShare 0 0 [.ref m] h n (s_rp n (fun v9 h1 => v9 = some (.float (if (r_wt (u_best π.1 cnt cp)) ≤ 0 then FP.fconst1 else FP.fdiv (FP.i2f (d_tot (d_wt π.1) (v_gp π.1 cnt) cnt)) (FP.i2f (r_wt (u_best π.1 cnt cp))))) ∧ m_R h1 m π 0 ∧ s_off h h1 m (m + 21)) s_no) := by
  obtain ⟨I, w, sn, P, tx, rp, hP, -, hr1, hrr⟩ := hR
  have hM := hP.1
  have hT := hP.2.2.2.2.2.2.2
  have hm := hM.1
  have hw := hM.2
  have hoff : s_off h h m (m + 21) := s_off.rf
  have he : d_eq cnt (m_D w) π.1 := by
    obtain ⟨c9, p9, o9, e9⟩ := id hr1
    obtain rfl : c9 = cnt := o9.cn.symm.trans ok.cn
    exact e9
  have okm := he.sy.ok ok
  have hc := okm.1
  have h14 := ok.2.1
  have hcp := okm.2.2.1
  have h100 := ok.2.2.2.1
  refine s_Mt_of rfl (by decide) (by exact Nat.le_of_ble_eq_true rfl) ?_
  refine g_aload_n dX9_greedyShare_0 rfl (by rfl) ?_
  refine g_iconst 0 dX9_greedyShare_1 (by rfl) ?_
  refine g_putf' dX9_greedyShare_2 pX9_59 (by exact hm) (by omega) (by exact Nat.le_of_ble_eq_true rfl) (by rfl) (by rfl) (fun h31 e31 => ?_)
  first | have hm_31 := s_up_off e31 (by omega) hm | have hm_31 := s_up_at e31
  first | have hw_31 := s_up_off e31 (by omega) hw | have hw_31 := s_up_at e31
  have hM := hM.th e31
  have qoff : s_off _ h31 m (m + 1) := s_off.rf.up e31 (by omega)
  have hT := hT.off qoff (by omega)
  have hP := hP.q (qoff.wide (a' := m) (b' := m + 2) (by omega) (by omega)).l2 hM hT
  have hoff := hoff.trans (qoff.wide (a' := m) (b' := m + 21) (by omega) (by omega))
  have hm := hM.1
  have hw := hM.2
  refine g_aload_n dX9_greedyShare_5 rfl (by rfl) ?_
  refine g_callV_p (c_X9_bestWeightNow hM hn okm hT) dX9_greedyShare_6 (mX9_bestWeightNow) rfl lX9_280 iX9_bestWeightNow vX9_bestWeightNow (by decide) (by omega) (by exact hm) rfl rfl rfl rfl (Nat.le_of_ble_eq_true rfl) (fun v9 h9 z9 => ?_)
  obtain ⟨rfl, hT, qoff⟩ := z9
  have hM := hM.off qoff (by omega)
  have hP := hP.q qoff.r2 hM hT
  have hoff := hoff.trans (qoff.wide (a' := m) (b' := m + 21) (by omega) (by omega))
  have hm := hM.1
  have hw := hM.2
  refine g_istore_n dX9_greedyShare_9 rfl (by decide) ?_
  refine g_iload_n dX9_greedyShare_10 rfl (by rfl) ?_
  refine g_iconst (-1) dX9_greedyShare_11 (by rfl) ?_
  refine g_icmp_eq (tgt := 19) dX9_greedyShare_12 (by decide) (fun c_12 => ?_) (fun c_12 => ?_)
  · have hle : r_wt (u_best (m_D w) cnt cp) ≤ 0 := (m_wt_0 okm h100).mpr (Or.inl c_12)
    refine g_fconst1 dX9_greedyShare_19 ?_
    refine g_goto (tgt := 31) dX9_greedyShare_20 (by decide) ?_
    refine g_freturn dX9_greedyShare_31 rfl ?_
    first | (refine ⟨rfl, ?_, ⟨_, _, _, _, _, _, hP, rfl, hr1, hrr⟩, hoff⟩; (rw [← he.best, ← he.gp, ← he.totw, if_neg hgt])) | (refine ⟨rfl, ?_, ⟨_, _, _, _, _, _, hP, rfl, hr1, hrr⟩, hoff⟩; (rw [← he.best, if_pos hle]))
  · refine g_iload_n dX9_greedyShare_15 rfl (by rfl) ?_
    refine g_if_ne (tgt := 23) dX9_greedyShare_16 (by decide) (fun c_16 => ?_) (fun c_16 => ?_)
    · have hgt : ¬ r_wt (u_best (m_D w) cnt cp) ≤ 0 := fun z => ((m_wt_0 okm h100).mp z).elim c_12 c_16
      refine g_aload_n dX9_greedyShare_23 rfl (by rfl) ?_
      refine g_callV_e (c_X9_greedyWeightNow hM hn okm) dX9_greedyShare_24 (mX9_greedyWeightNow) rfl lX9_299 iX9_greedyWeightNow vX9_greedyWeightNow (by decide) (by omega) (by exact hm) rfl rfl rfl rfl (Nat.le_of_ble_eq_true rfl) ?_
      rw [if_neg (fun z => c_12 ((m_wt1 okm h100).mpr ((m_rm_np okm).mp z)))]
      refine g_i2f dX9_greedyShare_27 ?_
      refine g_iload_n dX9_greedyShare_28 rfl (by rfl) ?_
      refine g_i2f dX9_greedyShare_29 ?_
      refine g_fdiv dX9_greedyShare_30 (f_ff _ (fun z => c_16 z)) ?_
      refine g_freturn dX9_greedyShare_31 rfl ?_
      first | (refine ⟨rfl, ?_, ⟨_, _, _, _, _, _, hP, rfl, hr1, hrr⟩, hoff⟩; (rw [← he.best, ← he.gp, ← he.totw, if_neg hgt])) | (refine ⟨rfl, ?_, ⟨_, _, _, _, _, _, hP, rfl, hr1, hrr⟩, hoff⟩; (rw [← he.best, if_pos hle]))
    · have hle : r_wt (u_best (m_D w) cnt cp) ≤ 0 := (m_wt_0 okm h100).mpr (Or.inr c_16)
      refine g_fconst1 dX9_greedyShare_19 ?_
      refine g_goto (tgt := 31) dX9_greedyShare_20 (by decide) ?_
      refine g_freturn dX9_greedyShare_31 rfl ?_
      first | (refine ⟨rfl, ?_, ⟨_, _, _, _, _, _, hP, rfl, hr1, hrr⟩, hoff⟩; (rw [← he.best, ← he.gp, ← he.totw, if_neg hgt])) | (refine ⟨rfl, ?_, ⟨_, _, _, _, _, _, hP, rfl, hr1, hrr⟩, hoff⟩; (rw [← he.best, if_pos hle]))

theorem c_X9_bit {h : s_H} {n : Nat} (x : Int32) : s_Mt TX9_bit 0 0 [.int x] h n (s_re (some (.int (if x = 0 then 0 else 1))) h n) := by
  refine s_Mt_of rfl (by decide) (by exact Nat.le_of_ble_eq_true rfl) ?_
  refine g_iload_n dX9_bit_0 rfl (by rfl) ?_
  refine g_if_eq (tgt := 8) dX9_bit_1 (by decide) (fun c_1 => ?_) (fun c_1 => ?_)
  · have hz : x = 0 := c_1
    refine g_iconst 0 dX9_bit_8 (by rfl) ?_
    refine g_ireturn dX9_bit_9 rfl ?_
    first | exact ⟨by rw [if_pos hz], rfl, rfl⟩ | exact ⟨by rw [if_neg hz], rfl, rfl⟩
  · have hz : ¬ x = 0 := c_1
    refine g_iconst 1 dX9_bit_4 (by rfl) ?_
    refine g_goto (tgt := 9) dX9_bit_5 (by decide) ?_
    refine g_ireturn dX9_bit_9 rfl ?_
    first | exact ⟨by rw [if_pos hz], rfl, rfl⟩ | exact ⟨by rw [if_neg hz], rfl, rfl⟩

/-- pinned items that the plan hasn't got -/
theorem m_andn {a b : Nat} (ha : a < 16384) (hb : b < 16384) : (nI a &&& (nI b ^^^ -1) = 0) ↔ (nI b &&& nI a = nI a) := by
  have key : ∀ x y : BitVec 32, (x &&& (y ^^^ 4294967295#32) = 0#32) ↔ (y &&& x = x) := fun x y => by
    constructor
    · intro h
      apply BitVec.eq_of_getLsbD_eq
      intro i hi
      have := congrArg (fun z => BitVec.getLsbD z i) h
      simp only [BitVec.getLsbD_and, BitVec.getLsbD_xor, BitVec.getLsbD_zero] at this ⊢
      have e1 : (4294967295#32).getLsbD i = true := by
        have : (4294967295#32) = BitVec.allOnes 32 := by decide
        rw [this, BitVec.getLsbD_allOnes]
        exact decide_eq_true hi
      rw [e1] at this
      cases hx : x.getLsbD i <;> cases hy : y.getLsbD i <;> simp_all
    · intro h
      apply BitVec.eq_of_getLsbD_eq
      intro i hi
      have := congrArg (fun z => BitVec.getLsbD z i) h
      simp only [BitVec.getLsbD_and, BitVec.getLsbD_xor, BitVec.getLsbD_zero] at this ⊢
      have e1 : (4294967295#32).getLsbD i = true := by
        have : (4294967295#32) = BitVec.allOnes 32 := by decide
        rw [this, BitVec.getLsbD_allOnes]
        exact decide_eq_true hi
      rw [e1]
      cases hx : x.getLsbD i <;> cases hy : y.getLsbD i <;> simp_all
  have h := key (nI a).toBitVec (nI b).toBitVec
  constructor
  · intro z
    exact Int32.toBitVec_inj.mp (h.mp (by have := congrArg Int32.toBitVec z; exact this))
  · intro z
    exact Int32.toBitVec_inj.mp (h.mpr (by have := congrArg Int32.toBitVec z; exact this))

theorem m_c14 {σ : s_D} {cnt cp c : Nat} (ok : d_ok σ cnt cp) (hc : c ≤ 100) : u_cell σ cnt 14 c = u_cell σ cnt (u_nf σ cnt) c := by
  have h14 := ok.2.1
  have h := u_nf_le (σ := σ) cnt
  unfold u_cell
  rw [u_at_full cnt (by omega), u_at_full cnt (Nat.le_refl _)]
theorem m_ap {σ : s_D} {cnt cp : Nat} (ok : d_ok σ cnt cp) (hc : cp ≤ 100) (hnp : ¬ u_best σ cnt cp = r_NP) : (d_set σ 1 cnt &&& (r_st (u_best σ cnt cp) ^^^ -1) = 0) ↔ (r_st (u_best σ cnt cp) &&& d_set σ 1 cnt = d_set σ 1 cnt) := by
  have h14 := ok.2.1
  by_cases hr : k_P σ cnt ≤ cp
  · rw [(k_tell ok hc hr).2.2.1, k_dset (by omega)]
    exact m_andn (ka_M14 h14) (ka_M14 h14)
  · exact absurd (k_none ok hc (by omega)) hnp
theorem d_eq.df {cnt cp : Nat} {σ τ : s_D} (q : d_eq cnt σ τ) {pl : Int32} : v_df σ cnt cp pl ↔ v_df τ cnt cp pl := by
  unfold v_df
  rw [q.totw, q.totw, q.set', q.room, q.nf cnt (Nat.le_refl _), q.cell]
theorem d_eq.fb {cnt cp : Nat} {σ τ : s_D} (q : d_eq cnt σ τ) {pl : Int32} : v_fb σ cnt cp pl ↔ v_fb τ cnt cp pl := by
  unfold v_fb
  rw [q.tots, q.set', q.set']
theorem d_eq.ob {cnt : Nat} {σ τ : s_D} (q : d_eq cnt σ τ) {pl : Int32} : v_ob σ cnt pl ↔ v_ob τ cnt pl := by
  unfold v_ob
  rw [q.totw, q.totw, q.gp, q.vbd]
theorem v_b_if {p q : Prop} (h : p ↔ q) : v_b p = v_b q := by rw [propext h]

theorem m_vio3 {h : s_H} {n m : Nat} {π : s_Pl} {I w sn tx rp : Nat → Int32} {P : Nat → Nat → Int32} (hP : m_pl h m I w sn P tx rp) (hr1 : m_r1 w π) (hrr : m_rr I sn P tx rp π) (hI : I 0 = 0) (hn : m + 21 ≤ n) {cnt cp : Nat} (okm : d_ok (m_D w) cnt cp) (he : d_eq cnt (m_D w) π.1) (hnp : ¬ u_best (m_D w) cnt cp = r_NP) {h0 : s_H} (hoff : s_off h0 h m (m + 21)) {x : Int32} {lv : s_V} (ho : v_b (v_ob (m_D w) cnt (r_st (u_best (m_D w) cnt cp))) = (if x = 0 then 0 else 1)) : s_G TX9_violations (s_rp n (fun v9 h1 => v9 = some (.int (if u_best π.1 cnt cp = r_NP then 0 else (((v_b (v_df π.1 cnt cp (r_st (u_best π.1 cnt cp)))) + (v_b (v_fb π.1 cnt cp (r_st (u_best π.1 cnt cp))))) + (v_b (v_ob π.1 cnt (r_st (u_best π.1 cnt cp))))))) ∧ m_R h1 m π 0 ∧ s_off h0 h1 m (m + 21)) s_no) 139 lv [.int x, .int (v_b (v_df (m_D w) cnt cp (r_st (u_best (m_D w) cnt cp))) + v_b (v_fb (m_D w) cnt cp (r_st (u_best (m_D w) cnt cp))))] h n 0 0 := by
  have hM := hP.1
  have hT := hP.2.2.2.2.2.2.2
  have hm := hM.1
  have hw := hM.2
  have hc := okm.1
  have h14 := okm.2.1
  have hcp := okm.2.2.1
  have h100 := okm.2.2.2.1
  have hrm : ¬ d_room (m_D w) cnt < 0 := fun z => hnp ((m_rm_np okm).mp z)
  refine g_callS_e (c_X9_bit _) dX9_violations_139 (mX9_bit) rfl lX9_308 sX9_bit (by decide) rfl rfl (Nat.le_of_ble_eq_true rfl) ?_
  refine g_iadd dX9_violations_142 ?_
  refine g_ireturn dX9_violations_143 rfl ?_
  refine ⟨rfl, ?_, ⟨_, _, _, _, _, _, hP, hI, hr1, hrr⟩, hoff⟩
  rw [← he.best, if_neg hnp, ← v_b_if he.df, ← v_b_if he.fb, ← v_b_if he.ob, ho]

theorem m_vio2 {h : s_H} {n m : Nat} {π : s_Pl} {I w sn tx rp : Nat → Int32} {P : Nat → Nat → Int32} (hP : m_pl h m I w sn P tx rp) (hr1 : m_r1 w π) (hrr : m_rr I sn P tx rp π) (hI : I 0 = 0) (hn : m + 21 ≤ n) {cnt cp : Nat} (okm : d_ok (m_D w) cnt cp) (he : d_eq cnt (m_D w) π.1) (hnp : ¬ u_best (m_D w) cnt cp = r_NP) {h0 : s_H} (hoff : s_off h0 h m (m + 21)) {x : Int32} {lv : s_V} (h0l : lv 0 = some (.ref m)) (h1l : lv 1 = some (.int (r_st (u_best (m_D w) cnt cp)))) (hf : v_b (v_fb (m_D w) cnt cp (r_st (u_best (m_D w) cnt cp))) = (if x = 0 then 0 else 1)) : s_G TX9_violations (s_rp n (fun v9 h1 => v9 = some (.int (if u_best π.1 cnt cp = r_NP then 0 else (((v_b (v_df π.1 cnt cp (r_st (u_best π.1 cnt cp)))) + (v_b (v_fb π.1 cnt cp (r_st (u_best π.1 cnt cp))))) + (v_b (v_ob π.1 cnt (r_st (u_best π.1 cnt cp))))))) ∧ m_R h1 m π 0 ∧ s_off h0 h1 m (m + 21)) s_no) 104 lv [.int x, .int (v_b (v_df (m_D w) cnt cp (r_st (u_best (m_D w) cnt cp))))] h n 0 0 := by
  have hM := hP.1
  have hT := hP.2.2.2.2.2.2.2
  have hm := hM.1
  have hw := hM.2
  have hc := okm.1
  have h14 := okm.2.1
  have hcp := okm.2.2.1
  have h100 := okm.2.2.2.1
  have hrm : ¬ d_room (m_D w) cnt < 0 := fun z => hnp ((m_rm_np okm).mp z)
  refine g_lv (l := [(0, .ref m), (1, .int (r_st (u_best (m_D w) cnt cp)))]) ?_ ⟨h0l, h1l, trivial⟩
  refine g_callS_e (c_X9_bit _) dX9_violations_104 (mX9_bit) rfl lX9_308 sX9_bit (by decide) rfl rfl (Nat.le_of_ble_eq_true rfl) ?_
  rw [← hf]
  refine g_iadd dX9_violations_107 ?_
  refine g_istore_n dX9_violations_108 rfl (by decide) ?_
  refine g_iload_n dX9_violations_109 rfl (by rfl) ?_
  refine g_aload_n dX9_violations_110 rfl (by rfl) ?_
  refine g_callV_e (c_X9_greedyWeightNow hM hn okm) dX9_violations_111 (mX9_greedyWeightNow) rfl lX9_299 iX9_greedyWeightNow vX9_greedyWeightNow (by decide) (by omega) (by exact hm) rfl rfl rfl rfl (Nat.le_of_ble_eq_true rfl) ?_
  rw [if_neg hrm]
  refine g_aload_n dX9_violations_114 rfl (by rfl) ?_
  refine g_iload_n dX9_violations_115 rfl (by rfl) ?_
  refine g_callV_e (c_X9_weightOfSet hM hn hc h14 _) dX9_violations_116 (mX9_weightOfSet) rfl lX9_111 iX9_weightOfSet vX9_weightOfSet (by decide) (by omega) (by exact hm) rfl rfl rfl rfl (Nat.le_of_ble_eq_true rfl) ?_
  refine g_icmp_gt (tgt := 134) dX9_violations_119 (by decide) (fun c_119 => ?_) (fun c_119 => ?_)
  · have ho : v_ob (m_D w) cnt (r_st (u_best (m_D w) cnt cp)) := Or.inl c_119
    refine g_iconst 1 dX9_violations_134 (by rfl) ?_
    refine g_goto (tgt := 139) dX9_violations_135 (by decide) ?_
    exact m_vio3 hP hr1 hrr hI hn okm he hnp hoff (by first | exact (v_b1 ho).symm.trans (by decide) | exact (v_b0 hon).symm.trans (by decide))
  · refine g_aload_n dX9_violations_122 rfl (by rfl) ?_
    refine g_iload_n dX9_violations_123 rfl (by rfl) ?_
    refine g_callV_e (c_X9_weightOfSet hM hn hc h14 _) dX9_violations_124 (mX9_weightOfSet) rfl lX9_111 iX9_weightOfSet vX9_weightOfSet (by decide) (by omega) (by exact hm) rfl rfl rfl rfl (Nat.le_of_ble_eq_true rfl) ?_
    refine g_aload_n dX9_violations_127 rfl (by rfl) ?_
    refine g_callV_e (c_X9_bound hM hn okm) dX9_violations_128 (mX9_bound) rfl lX9_302 iX9_bound vX9_bound (by decide) (by omega) (by exact hm) rfl rfl rfl rfl (Nat.le_of_ble_eq_true rfl) ?_
    rw [if_neg hrm]
    refine g_icmp_le (tgt := 138) dX9_violations_131 (by decide) (fun c_131 => ?_) (fun c_131 => ?_)
    · have hon : ¬ v_ob (m_D w) cnt (r_st (u_best (m_D w) cnt cp)) := fun z => z.elim c_119 (fun z => Int32.not_lt.mpr c_131 z)
      refine g_iconst 0 dX9_violations_138 (by rfl) ?_
      exact m_vio3 hP hr1 hrr hI hn okm he hnp hoff (by first | exact (v_b1 ho).symm.trans (by decide) | exact (v_b0 hon).symm.trans (by decide))
    · have ho : v_ob (m_D w) cnt (r_st (u_best (m_D w) cnt cp)) := Or.inr (Int32.not_le.mp c_131)
      refine g_iconst 1 dX9_violations_134 (by rfl) ?_
      refine g_goto (tgt := 139) dX9_violations_135 (by decide) ?_
      exact m_vio3 hP hr1 hrr hI hn okm he hnp hoff (by first | exact (v_b1 ho).symm.trans (by decide) | exact (v_b0 hon).symm.trans (by decide))

theorem m_vio1 {h : s_H} {n m : Nat} {π : s_Pl} {I w sn tx rp : Nat → Int32} {P : Nat → Nat → Int32} (hP : m_pl h m I w sn P tx rp) (hr1 : m_r1 w π) (hrr : m_rr I sn P tx rp π) (hI : I 0 = 0) (hn : m + 21 ≤ n) {cnt cp : Nat} (okm : d_ok (m_D w) cnt cp) (he : d_eq cnt (m_D w) π.1) (hnp : ¬ u_best (m_D w) cnt cp = r_NP) {h0 : s_H} (hoff : s_off h0 h m (m + 21)) {x : Int32} {lv : s_V} (h0l : lv 0 = some (.ref m)) (h1l : lv 1 = some (.int (r_st (u_best (m_D w) cnt cp)))) (h2l : lv 2 = some (.int (d_set (m_D w) 1 cnt))) (hd : v_b (v_df (m_D w) cnt cp (r_st (u_best (m_D w) cnt cp))) = (if x = 0 then 0 else 1)) : s_G TX9_violations (s_rp n (fun v9 h1 => v9 = some (.int (if u_best π.1 cnt cp = r_NP then 0 else (((v_b (v_df π.1 cnt cp (r_st (u_best π.1 cnt cp)))) + (v_b (v_fb π.1 cnt cp (r_st (u_best π.1 cnt cp))))) + (v_b (v_ob π.1 cnt (r_st (u_best π.1 cnt cp))))))) ∧ m_R h1 m π 0 ∧ s_off h0 h1 m (m + 21)) s_no) 58 lv [.int x] h n 0 0 := by
  have hM := hP.1
  have hT := hP.2.2.2.2.2.2.2
  have hm := hM.1
  have hw := hM.2
  have hc := okm.1
  have h14 := okm.2.1
  have hcp := okm.2.2.1
  have h100 := okm.2.2.2.1
  have hrm : ¬ d_room (m_D w) cnt < 0 := fun z => hnp ((m_rm_np okm).mp z)
  refine g_lv (l := [(0, .ref m), (1, .int (r_st (u_best (m_D w) cnt cp))), (2, .int (d_set (m_D w) 1 cnt))]) ?_ ⟨h0l, h1l, h2l, trivial⟩
  refine g_callS_e (c_X9_bit _) dX9_violations_58 (mX9_bit) rfl lX9_308 sX9_bit (by decide) rfl rfl (Nat.le_of_ble_eq_true rfl) ?_
  rw [← hd]
  refine g_istore_n dX9_violations_61 rfl (by decide) ?_
  refine g_aload_n dX9_violations_62 rfl (by rfl) ?_
  refine g_iload_n dX9_violations_63 rfl (by rfl) ?_
  refine g_callV_e (c_X9_sizeOfSet hM hn hc h14 _) dX9_violations_64 (mX9_sizeOfSet) rfl lX9_96 iX9_sizeOfSet vX9_sizeOfSet (by decide) (by omega) (by exact hm) rfl rfl rfl rfl (Nat.le_of_ble_eq_true rfl) ?_
  refine g_aload_n dX9_violations_67 rfl (by rfl) ?_
  refine g_getf dX9_violations_68 fX9_9 (by exact hm) (by omega) (by rfl) ?_
  refine g_iconst 0 dX9_violations_71 (by rfl) ?_
  refine g_iald dX9_violations_72 (by exact hw) (by omega) (show (0 : Int32) = nI 0 from rfl) (by decide) (by omega) ?_
  rw [(show w 0 = nI cp from hcp)]
  refine g_icmp_gt (tgt := 94) dX9_violations_73 (by decide) (fun c_73 => ?_) (fun c_73 => ?_)
  · have hf : v_fb (m_D w) cnt cp (r_st (u_best (m_D w) cnt cp)) := Or.inl c_73
    refine g_iconst 1 dX9_violations_94 (by rfl) ?_
    refine g_goto (tgt := 99) dX9_violations_95 (by decide) ?_
    refine g_istore dX9_violations_99 (by decide) ?_
    refine g_iload_n dX9_violations_101 rfl (by rfl) ?_
    refine g_iload dX9_violations_102 (by rfl) ?_
    exact m_vio2 hP hr1 hrr hI hn okm he hnp hoff rfl rfl (by first | exact (v_b1 hf).symm.trans (by decide) | exact (v_b0 hfn).symm.trans (by decide))
  · refine g_iload_n dX9_violations_76 rfl (by rfl) ?_
    refine g_aload_n dX9_violations_77 rfl (by rfl) ?_
    refine g_iconst 2 dX9_violations_78 (by rfl) ?_
    refine g_callV_e (c_X9_inState hM hn hc h14 2) dX9_violations_79 (mX9_inState) rfl lX9_93 iX9_inState vX9_inState (by decide) (by omega) (by exact hm) rfl rfl rfl rfl (Nat.le_of_ble_eq_true rfl) ?_
    refine g_iand dX9_violations_82 ?_
    refine g_if_ne (tgt := 94) dX9_violations_83 (by decide) (fun c_83 => ?_) (fun c_83 => ?_)
    · have hf : v_fb (m_D w) cnt cp (r_st (u_best (m_D w) cnt cp)) := Or.inr (Or.inl c_83)
      refine g_iconst 1 dX9_violations_94 (by rfl) ?_
      refine g_goto (tgt := 99) dX9_violations_95 (by decide) ?_
      refine g_istore dX9_violations_99 (by decide) ?_
      refine g_iload_n dX9_violations_101 rfl (by rfl) ?_
      refine g_iload dX9_violations_102 (by rfl) ?_
      exact m_vio2 hP hr1 hrr hI hn okm he hnp hoff rfl rfl (by first | exact (v_b1 hf).symm.trans (by decide) | exact (v_b0 hfn).symm.trans (by decide))
    · refine g_iload_n dX9_violations_86 rfl (by rfl) ?_
      refine g_iload_n dX9_violations_87 rfl (by rfl) ?_
      refine g_iconst (-1) dX9_violations_88 (by rfl) ?_
      refine g_ixor dX9_violations_89 ?_
      refine g_iand dX9_violations_90 ?_
      refine g_if_eq (tgt := 98) dX9_violations_91 (by decide) (fun c_91 => ?_) (fun c_91 => ?_)
      · have hfn : ¬ v_fb (m_D w) cnt cp (r_st (u_best (m_D w) cnt cp)) := fun z => z.elim c_73 (fun z => z.elim (fun z => z c_83) (fun z => z ((m_ap okm h100 hnp).mp c_91)))
        refine g_iconst 0 dX9_violations_98 (by rfl) ?_
        refine g_istore dX9_violations_99 (by decide) ?_
        refine g_iload_n dX9_violations_101 rfl (by rfl) ?_
        refine g_iload dX9_violations_102 (by rfl) ?_
        exact m_vio2 hP hr1 hrr hI hn okm he hnp hoff rfl rfl (by first | exact (v_b1 hf).symm.trans (by decide) | exact (v_b0 hfn).symm.trans (by decide))
      · have hf : v_fb (m_D w) cnt cp (r_st (u_best (m_D w) cnt cp)) := Or.inr (Or.inr (fun z => c_91 ((m_ap okm h100 hnp).mpr z)))
        refine g_iconst 1 dX9_violations_94 (by rfl) ?_
        refine g_goto (tgt := 99) dX9_violations_95 (by decide) ?_
        refine g_istore dX9_violations_99 (by decide) ?_
        refine g_iload_n dX9_violations_101 rfl (by rfl) ?_
        refine g_iload dX9_violations_102 (by rfl) ?_
        exact m_vio2 hP hr1 hrr hI hn okm he hnp hoff rfl rfl (by first | exact (v_b1 hf).symm.trans (by decide) | exact (v_b0 hfn).symm.trans (by decide))

theorem c_M_violations {h : s_H} {n m : Nat} {π : s_Pl} {t : Int32} (hR : m_R h m π t) (hn : m + 21 ≤ n) {cnt cp : Nat} (ok : d_ok π.1 cnt cp) : s_Mt TX9_violations 0 0 [.ref m] h n (s_rp n (fun v9 h1 => v9 = some (.int (if u_best π.1 cnt cp = r_NP then 0 else (((v_b (v_df π.1 cnt cp (r_st (u_best π.1 cnt cp)))) + (v_b (v_fb π.1 cnt cp (r_st (u_best π.1 cnt cp))))) + (v_b (v_ob π.1 cnt (r_st (u_best π.1 cnt cp))))))) ∧ m_R h1 m π 0 ∧ s_off h h1 m (m + 21)) s_no) := by
  obtain ⟨I, w, sn, P, tx, rp, hP, -, hr1, hrr⟩ := hR
  have hM := hP.1
  have hT := hP.2.2.2.2.2.2.2
  have hm := hM.1
  have hw := hM.2
  have hoff : s_off h h m (m + 21) := s_off.rf
  have he : d_eq cnt (m_D w) π.1 := by
    obtain ⟨c9, p9, o9, e9⟩ := id hr1
    obtain rfl : c9 = cnt := o9.cn.symm.trans ok.cn
    exact e9
  have okm := he.sy.ok ok
  have hc := okm.1
  have h14 := ok.2.1
  have hcp := okm.2.2.1
  have h100 := ok.2.2.2.1
  refine s_Mt_of rfl (by decide) (by exact Nat.le_of_ble_eq_true rfl) ?_
  refine g_aload_n dX9_violations_0 rfl (by rfl) ?_
  refine g_iconst 0 dX9_violations_1 (by rfl) ?_
  refine g_putf' dX9_violations_2 pX9_59 (by exact hm) (by omega) (by exact Nat.le_of_ble_eq_true rfl) (by rfl) (by rfl) (fun h31 e31 => ?_)
  first | have hm_31 := s_up_off e31 (by omega) hm | have hm_31 := s_up_at e31
  first | have hw_31 := s_up_off e31 (by omega) hw | have hw_31 := s_up_at e31
  have hM := hM.th e31
  have qoff : s_off _ h31 m (m + 1) := s_off.rf.up e31 (by omega)
  have hT := hT.off qoff (by omega)
  have hP := hP.q (qoff.wide (a' := m) (b' := m + 2) (by omega) (by omega)).l2 hM hT
  have hoff := hoff.trans (qoff.wide (a' := m) (b' := m + 21) (by omega) (by omega))
  have hm := hM.1
  have hw := hM.2
  refine g_aload_n dX9_violations_5 rfl (by rfl) ?_
  refine g_callV_p (c_X9_best hM hn okm hT) dX9_violations_6 (mX9_best) rfl lX9_123 iX9_best vX9_best (by decide) (by omega) (by exact hm) rfl rfl rfl rfl (Nat.le_of_ble_eq_true rfl) (fun v9 h9 z9 => ?_)
  obtain ⟨rfl, hT, qoff⟩ := z9
  have hM := hM.off qoff (by omega)
  have hP := hP.q qoff.r2 hM hT
  have hoff := hoff.trans (qoff.wide (a' := m) (b' := m + 21) (by omega) (by omega))
  have hm := hM.1
  have hw := hM.2
  refine g_istore_n dX9_violations_9 rfl (by decide) ?_
  refine g_iload_n dX9_violations_10 rfl (by rfl) ?_
  refine g_iconst (-1) dX9_violations_11 (by rfl) ?_
  refine g_icmp_ne (tgt := 17) dX9_violations_12 (by decide) (fun c_12 => ?_) (fun c_12 => ?_)
  · have hnp : ¬ u_best (m_D w) cnt cp = r_NP := fun z => c_12 ((m_best okm h100).1.mpr z)
    have hrm : ¬ d_room (m_D w) cnt < 0 := fun z => hnp ((m_rm_np okm).mp z)
    obtain ⟨rm, hrm9, hrme⟩ := nI_of hrm
    have hrm100 : rm ≤ 100 := by
      have := d_room_100 okm hrm
      rw [hrme, nI_clamp hrm9] at this
      exact this
    refine g_aload_n dX9_violations_17 rfl (by rfl) ?_
    refine g_iconst 1 dX9_violations_18 (by rfl) ?_
    refine g_callV_e (c_X9_inState hM hn hc h14 1) dX9_violations_19 (mX9_inState) rfl lX9_93 iX9_inState vX9_inState (by decide) (by omega) (by exact hm) rfl rfl rfl rfl (Nat.le_of_ble_eq_true rfl) ?_
    refine g_istore_n dX9_violations_22 rfl (by decide) ?_
    refine g_aload_n dX9_violations_23 rfl (by rfl) ?_
    refine g_iload_n dX9_violations_24 rfl (by rfl) ?_
    refine g_callV_e (c_X9_weightOfSet hM hn hc h14 _) dX9_violations_25 (mX9_weightOfSet) rfl lX9_111 iX9_weightOfSet vX9_weightOfSet (by decide) (by omega) (by exact hm) rfl rfl rfl rfl (Nat.le_of_ble_eq_true rfl) ?_
    refine g_aload_n dX9_violations_28 rfl (by rfl) ?_
    refine g_bipush (nI 14) dX9_violations_29 (by rfl) ?_
    refine g_aload_n dX9_violations_31 rfl (by rfl) ?_
    refine g_aload_n dX9_violations_32 rfl (by rfl) ?_
    refine g_getf dX9_violations_33 fX9_9 (by exact hm) (by omega) (by rfl) ?_
    refine g_iconst 0 dX9_violations_36 (by rfl) ?_
    refine g_iald dX9_violations_37 (by exact hw) (by omega) (show (0 : Int32) = nI 0 from rfl) (by decide) (by omega) ?_
    refine g_callV_e (c_X9_roomFor hM hn hc h14 (w 0)) dX9_violations_38 (mX9_roomFor) rfl lX9_99 iX9_roomFor vX9_roomFor (by decide) (by omega) (by exact hm) rfl rfl rfl rfl (Nat.le_of_ble_eq_true rfl) ?_
    change s_G _ _ _ _ (.int (d_room (m_D w) cnt) :: _) _ _ _ _
    rw [hrme]
    refine g_callV_p (c_X9_cellOf hM hn okm hT (R := 14) (by omega) hrm100) dX9_violations_41 (mX9_cellOf) rfl lX9_293 iX9_cellOf vX9_cellOf (by decide) (by omega) (by exact hm) rfl rfl rfl rfl (Nat.le_of_ble_eq_true rfl) (fun v9 h9 z9 => ?_)
    obtain ⟨rfl, hT, qoff⟩ := z9
    have hM := hM.off qoff (by omega)
    have hP := hP.q qoff.r2 hM hT
    have hoff := hoff.trans (qoff.wide (a' := m) (b' := m + 21) (by omega) (by omega))
    have hm := hM.1
    have hw := hM.2
    refine g_aload_n dX9_violations_44 rfl (by rfl) ?_
    refine g_iload_n dX9_violations_45 rfl (by rfl) ?_
    refine g_callV_e (c_X9_weightOfSet hM hn hc h14 _) dX9_violations_46 (mX9_weightOfSet) rfl lX9_111 iX9_weightOfSet vX9_weightOfSet (by decide) (by omega) (by exact hm) rfl rfl rfl rfl (Nat.le_of_ble_eq_true rfl) ?_
    refine g_iadd dX9_violations_49 ?_
    refine g_icmp_eq (tgt := 57) dX9_violations_50 (by decide) (fun c_50 => ?_) (fun c_50 => ?_)
    · have hdn : ¬ v_df (m_D w) cnt cp (r_st (u_best (m_D w) cnt cp)) := fun z => z (by rw [hrme, nI_clamp hrm9, ← m_c14 okm (by omega)]; exact c_50)
      refine g_iconst 0 dX9_violations_57 (by rfl) ?_
      exact m_vio1 hP hr1 hrr rfl hn okm he hnp hoff rfl rfl rfl (by first | exact (v_b1 hd).symm.trans (by decide) | exact (v_b0 hdn).symm.trans (by decide))
    · have hd : v_df (m_D w) cnt cp (r_st (u_best (m_D w) cnt cp)) := fun z => c_50 (by rw [hrme, nI_clamp hrm9, ← m_c14 okm (by omega)] at z; exact z)
      refine g_iconst 1 dX9_violations_53 (by rfl) ?_
      refine g_goto (tgt := 58) dX9_violations_54 (by decide) ?_
      exact m_vio1 hP hr1 hrr rfl hn okm he hnp hoff rfl rfl rfl (by first | exact (v_b1 hd).symm.trans (by decide) | exact (v_b0 hdn).symm.trans (by decide))
  · have hpp : u_best (m_D w) cnt cp = r_NP := (m_best okm h100).1.mp c_12
    refine g_iconst 0 dX9_violations_15 (by rfl) ?_
    refine g_ireturn dX9_violations_16 rfl ?_
    (refine ⟨rfl, ?_, ⟨_, _, _, _, _, _, hP, rfl, hr1, hrr⟩, hoff⟩; (rw [← he.best, if_pos hpp]))
