/-! THE MODEL: the value that an item needs -/
theorem k_f_put {σ : s_D} {i : Nat} {v : Int32} : k_f (d_put σ 1 i v) = k_f σ := rfl
theorem k_p_put {σ : s_D} {i : Nat} {v : Int32} : k_p (d_put σ 1 i v) = k_p σ := rfl
theorem k_s_put {σ : s_D} {i : Nat} {v : Int32} : k_s (d_put σ 1 i v) = k_s σ := rfl
theorem k_w_put {σ : s_D} {i j : Nat} {v : Int32} (h : j ≠ i) : k_w (d_put σ 1 i v) j = k_w σ j := by
  unfold k_w d_wt d_put
  show ((upd (σ.1 1) i v j) * (1 + σ.1 2 j)).toNatClampNeg = _
  rw [upd_ne h]
/-- an item left out -/
theorem k_out {σ : s_D} {i cnt : Nat} (hi : i < cnt) (hf : σ.1 3 i = 0) : (∀ j, k_f (d_put σ 3 i 2) j = ka_up (k_f σ) i false j) ∧ (∀ j, k_p (d_put σ 3 i 2) j = k_p σ j) ∧ k_w (d_put σ 3 i 2) = k_w σ ∧ k_s (d_put σ 3 i 2) = k_s σ := by
  refine ⟨fun j => ?_, fun j => ?_, rfl, rfl⟩
  · show decide ((if j = i then (2 : Int32) else σ.1 3 j) = 0) = (if j = i then false else decide (σ.1 3 j = 0))
    by_cases e : j = i
    · rw [if_pos e, if_pos e]; rfl
    · rw [if_neg e, if_neg e]
  · show decide ((if j = i then (2 : Int32) else σ.1 3 j) = 1) = decide (σ.1 3 j = 1)
    by_cases e : j = i
    · subst e
      rw [if_pos rfl, hf]
      rfl
    · rw [if_neg e]
theorem k_P_out {σ : s_D} {i cnt : Nat} (hi : i < cnt) (hf : σ.1 3 i = 0) : k_P (d_put σ 3 i 2) cnt = k_P σ cnt := ka_sm_eq cnt (fun j _ => (k_out hi hf).2.1 j)
theorem m_bI {σ : s_D} {cnt cp sz : Nat} (ok : d_ok σ cnt cp) (hs : sz ≤ 60) : (u_bestI σ cnt (nI cp - nI sz) = r_NP ↔ cp < k_P σ cnt + sz) ∧ (k_P σ cnt + sz ≤ cp → u_bestI σ cnt (nI cp - nI sz) = u_best σ cnt (cp - sz)) := by
  have h14 := ok.2.1
  have h100 := ok.2.2.2.1
  have hP := k_Pb ok
  have hps : u_ps σ cnt = nI (k_P σ cnt) := k_ps ok cnt (Nat.le_refl _)
  have key : k_P σ cnt + sz ≤ cp → u_bestI σ cnt (nI cp - nI sz) = u_best σ cnt (cp - sz) := fun h => by
    unfold u_bestI u_best
    rw [nI_sble (by omega)]
  refine ⟨⟨fun z => ?_, fun z => ?_⟩, key⟩
  · refine Nat.lt_of_not_le fun h => ?_
    rw [key h] at z
    exact (k_tell ok (by omega) (by omega)).2.2.2.2 z
  · unfold u_bestI
    rw [if_pos]
    rw [hps, Int32.lt_iff_toInt_lt, Int32.toInt_sub, Int32.toInt_sub, nI_ti (by omega), nI_ti (by omega), nI_ti (by omega)]
    have e1 : ((cp : Int) - (sz : Int)).bmod (2 ^ 32) = (cp : Int) - sz := Int.bmod_eq_of_le (by omega) (by omega)
    rw [e1, Int.bmod_eq_of_le (by omega) (by omega)]
    show _ < (0 : Int)
    omega
/-- a free item is taken if and only if it pays -/
theorem m_pays {σ : s_D} {cnt cp i v : Nat} (ok : d_ok σ cnt cp) (hi : i < cnt) (hf : σ.1 3 i = 0) (hv : v ≤ 999) (hr : k_P σ cnt ≤ cp) :
    (¬ s_bit (r_st (u_best (d_put σ 1 i (nI v)) cnt cp)) (nI i) = 0) ↔ (¬ u_bestI (d_put σ 3 i 2) cnt (nI cp - σ.1 0 i) = r_NP ∧ u_best (d_put σ 3 i 2) cnt cp < u_bestI (d_put σ 3 i 2) cnt (nI cp - σ.1 0 i) + r_rank (nI v * (1 + σ.1 2 i)) (σ.1 0 i) ((1 : Int32) <<< (nI i &&& 31))) := by
  have h14 := ok.2.1
  have h100 := ok.2.2.2.1
  have okv : d_ok (d_put σ 1 i (nI v)) cnt cp := ok.put1 hv
  have ok0 : d_ok (d_put σ 3 i (nI 2)) cnt cp := ok.put3 (by omega)
  change d_ok (d_put σ 3 i 2) cnt cp at ok0
  obtain ⟨o1, o2, o3, o4⟩ := k_out hi hf
  have hP0 := k_P_out hi hf
  obtain ⟨s1, s2, s3, -, -⟩ := k_it ok hi
  have hPv : k_P (d_put σ 1 i (nI v)) cnt = k_P σ cnt := rfl
  have hT := k_tell okv h100 (show k_P (d_put σ 1 i (nI v)) cnt ≤ cp from hr)
  rw [hPv] at hT
  obtain ⟨rm, hrm⟩ : ∃ rm, rm = cp - k_P σ cnt := ⟨_, rfl⟩
  rw [← hrm] at hT
  have hbit := k_bit (t := k_T (d_put σ 1 i (nI v)) cnt rm) h14 hi
  have hTi : k_T (d_put σ 1 i (nI v)) cnt rm i = k_t (d_put σ 1 i (nI v)) cnt rm i := by
    show (k_p σ i || _) = _
    have : k_p σ i = false := by unfold k_p; rw [hf]; rfl
    rw [this, Bool.false_or]
  obtain ⟨t1, t2, t3⟩ := k_t_ok (d_put σ 1 i (nI v)) cnt rm
  have hp := ka_pays h14 hi (show k_f (d_put σ 1 i (nI v)) i = true from decide_eq_true hf) t1 t2 t3
  have etp : ∀ c, ka_tp (ka_up (k_f (d_put σ 1 i (nI v))) i false) (k_w (d_put σ 1 i (nI v))) (k_s (d_put σ 1 i (nI v))) cnt c = ka_tp (k_f (d_put σ 3 i 2)) (k_w (d_put σ 3 i 2)) (k_s (d_put σ 3 i 2)) cnt c := ka_tp_eq cnt (fun j _ => (o1 j).symm) (fun j _ hj => ⟨by
    have hne : j ≠ i := fun e => by subst e; rw [ka_up_at] at hj; cases hj
    rw [k_w_put hne, o3], by rw [o4]; rfl⟩)
  rw [etp, etp] at hp
  have hirv : (r_rank (nI v * (1 + σ.1 2 i)) (σ.1 0 i) ((1 : Int32) <<< (nI i &&& 31))).toInt = ka_ir (k_w (d_put σ 1 i (nI v))) (k_s (d_put σ 1 i (nI v))) i := by
    have := k_ir okv hi
    have e : u_ir (d_put σ 1 i (nI v)) i = r_rank (nI v * (1 + σ.1 2 i)) (σ.1 0 i) ((1 : Int32) <<< (nI i &&& 31)) := by
      unfold u_ir
      have ed : d_wt (d_put σ 1 i (nI v)) i = nI v * (1 + σ.1 2 i) := by
        show (upd (σ.1 1) i (nI v) i) * (1 + σ.1 2 i) = _
        rw [upd_at]
      rw [ed]
      rfl
    rw [← e]; exact this
  have birv := k_irb okv hi
  rw [hT.2.2.1, hbit, hTi, Bool.not_eq_false, hp]
  rw [s1]
  obtain ⟨q1, q2⟩ := m_bI ok0 s3
  rw [q1, hP0]
  change (k_s σ i ≤ rm ∧ _) ↔ _
  by_cases hsz : k_P σ cnt + k_s σ i ≤ cp
  · rw [q2 (by rw [hP0]; exact hsz)]
    have b0 := k_best ok0 h100 (by rw [hP0]; exact hr)
    have b1 := k_best ok0 (show cp - k_s σ i ≤ 100 by omega) (by rw [hP0]; omega)
    have r0 := k_rkb ok0 (t := k_p (d_put σ 3 i 2)) (Nat.le_refl cnt)
    unfold k_T at b0 b1
    rw [ka_rk_or k_ap, ← (k_t_ok (d_put σ 3 i 2) cnt _).2.2] at b0 b1
    rw [hP0, ← hrm] at b0
    rw [hP0, show cp - k_s σ i - k_P σ cnt = rm - k_s σ i by omega] at b1
    have tb0 := k_tpb ok0 cnt (Nat.le_refl _) rm
    have tb1 := k_tpb ok0 cnt (Nat.le_refl _) (rm - k_s σ i)
    rw [s1] at hirv
    have hadd := k_add b1 hirv (by omega) (by omega)
    rw [Int64.lt_iff_toInt_lt, hadd, b0]
    change (k_s σ i ≤ rm ∧ _ < ka_tp (k_f (d_put σ 3 i 2)) (k_w (d_put σ 3 i 2)) (k_s (d_put σ 3 i 2)) cnt (rm - k_s σ i) + _) ↔ _
    constructor
    · rintro ⟨z1, z2⟩
      exact ⟨by omega, by omega⟩
    · rintro ⟨z1, z2⟩
      exact ⟨by omega, by omega⟩
  · exact ⟨fun z => absurd z.1 (by omega), fun z => absurd z.1 (by omega)⟩
noncomputable def v_vx (oth wo : Int64) (a sz bt : Int32) (k v : Nat) : Int32 := if oth = r_NP then -1 else v_vn oth wo a sz bt k v
theorem v_vx_s {oth wo : Int64} {a sz bt : Int32} {k v : Nat} : v_vx oth wo a sz bt (k + 1) v = if ¬ oth = r_NP ∧ wo < oth + r_rank (nI v * (1 + a)) sz bt then nI v else v_vx oth wo a sz bt k (v + 1) := by
  unfold v_vx
  by_cases e : oth = r_NP
  · rw [if_pos e, if_pos e, if_neg (fun z => z.1 e)]
  · rw [if_neg e, if_neg e]
    by_cases e2 : wo < oth + r_rank (nI v * (1 + a)) sz bt
    · rw [if_pos ⟨e, e2⟩]
      exact if_pos e2
    · rw [if_neg (fun z => e2 z.2)]
      exact if_neg e2
theorem v_vx_0 {oth wo : Int64} {a sz bt : Int32} {v : Nat} : v_vx oth wo a sz bt 0 v = -1 := by
  unfold v_vx
  split <;> rfl

theorem m_at.cw {h : s_H} {m : Nat} {I w w1 : Nat → Int32} (q : m_at h m I w) (e : w = w1) : m_at h m I w1 := e ▸ q

theorem m_back0 {w : Nat → Int32} {k : Nat} : upd w k (w k) = w := by
  funext j
  simp only [upd]
  split
  · rename_i e; rw [e]
  · rfl

theorem c_M_valueNeeded {h : s_H} {n m : Nat} {π : s_Pl} {t : Int32} (hR : m_R h m π t) (hn : m + 21 ≤ n) {cnt cp : Nat} (ok : d_ok π.1 cnt cp) (x : Int32) : s_Mt TX9_valueNeeded 0 0 [.ref m, .int x] h n (s_rp n (fun v9 h1 => ((s_in π x ∧ v9 = some (.int (if ¬ π.1.1 3 x.toNatClampNeg = 0 then -1 else if u_bestI (d_put π.1 3 x.toNatClampNeg 2) cnt (nI cp - π.1.1 0 x.toNatClampNeg) = r_NP then -1 else (v_vn (u_bestI (d_put π.1 3 x.toNatClampNeg 2) cnt (nI cp - π.1.1 0 x.toNatClampNeg)) (u_best (d_put π.1 3 x.toNatClampNeg 2) cnt cp) (π.1.1 2 x.toNatClampNeg) (π.1.1 0 x.toNatClampNeg) ((1 : Int32) <<< (nI x.toNatClampNeg &&& 31)) 1000 0))) ∧ m_R h1 m π 0) ∨ (¬ s_in π x ∧ (∃ z, v9 = some (.int z)) ∧ m_R h1 m π 1)) ∧ s_off h h1 m (m + 21)) s_no) := by
  obtain ⟨I, w, sn, P, tx, rp, hP, -, hr1, hrr⟩ := hR
  have hM := hP.1
  have hT := hP.2.2.2.2.2.2.2
  have hm := hM.1
  have hw := hM.2
  have hoff : s_off h h m (m + 21) := s_off.rf
  have he : d_eq cnt (m_D w) π.1 := by
    obtain ⟨c9, p9, o9, e9⟩ := id hr1
    obtain rfl : c9 = cnt := o9.cn.symm.trans ok.cn
    exact e9
  have okm := he.sy.ok ok
  have hc := okm.1
  have h14 := ok.2.1
  have hcp := okm.2.2.1
  have h100 := ok.2.2.2.1
  refine s_Mt_of rfl (by decide) (by exact Nat.le_of_ble_eq_true rfl) ?_
  refine g_aload_n dX9_valueNeeded_0 rfl (by rfl) ?_
  refine g_iconst 0 dX9_valueNeeded_1 (by rfl) ?_
  refine g_putf' dX9_valueNeeded_2 pX9_59 (by exact hm) (by omega) (by exact Nat.le_of_ble_eq_true rfl) (by rfl) (by rfl) (fun h31 e31 => ?_)
  first | have hm_31 := s_up_off e31 (by omega) hm | have hm_31 := s_up_at e31
  first | have hw_31 := s_up_off e31 (by omega) hw | have hw_31 := s_up_at e31
  have hM := hM.th e31
  have qoff : s_off _ h31 m (m + 1) := s_off.rf.up e31 (by omega)
  have hT := hT.off qoff (by omega)
  have hP := hP.q (qoff.wide (a' := m) (b' := m + 2) (by omega) (by omega)).l2 hM hT
  have hoff := hoff.trans (qoff.wide (a' := m) (b' := m + 21) (by omega) (by omega))
  have hm := hM.1
  have hw := hM.2
  refine g_aload_n dX9_valueNeeded_5 rfl (by rfl) ?_
  refine g_iload_n dX9_valueNeeded_6 rfl (by rfl) ?_
  refine g_callV_p (c_X9_noItem hM hn hc h14 x) dX9_valueNeeded_7 (mX9_noItem) rfl lX9_134 iX9_noItem vX9_noItem (by decide) (by omega) (by exact hm) rfl rfl rfl rfl (Nat.le_of_ble_eq_true rfl) (fun v9 h9 z9 => ?_)
  obtain ⟨rfl, hM, qoff⟩ := z9
  have hT := hT.off qoff (by omega)
  have hP := hP.q (qoff.wide (a' := m) (b' := m + 2) (by omega) (by omega)).l2 hM hT
  have hoff := hoff.trans (qoff.wide (a' := m) (b' := m + 21) (by omega) (by omega))
  have hm := hM.1
  have hw := hM.2
  refine g_if_eq (tgt := 15) dX9_valueNeeded_10 (by decide) (fun c_10 => ?_) (fun c_10 => ?_)
  · have hin : ¬ x < 0 ∧ x < nI cnt := Classical.byContradiction fun z => by rw [if_neg z] at c_10; exact absurd c_10 (by decide)
    rw [if_pos hin] at hM hP
    have hin : s_in π x := by unfold s_in; rw [ok.1]; exact hin
    obtain ⟨i, rfl, hi⟩ := hin.nat ok
    have hm := hM.1
    have hw := hM.2
    refine g_aload_n dX9_valueNeeded_15 rfl (by rfl) ?_
    refine g_iload_n dX9_valueNeeded_16 rfl (by rfl) ?_
    refine g_iconst (nI 1) dX9_valueNeeded_17 (by rfl) ?_
    refine g_callV_e (c_X9_of hM hn i 1 (by omega)) dX9_valueNeeded_18 (mX9_of) rfl lX9_73 iX9_of vX9_of (by decide) (by omega) (by exact hm) rfl rfl rfl rfl (Nat.le_of_ble_eq_true rfl) ?_
    refine g_istore_n dX9_valueNeeded_21 rfl (by decide) ?_
    refine g_iconst (-1) dX9_valueNeeded_22 (by rfl) ?_
    refine g_istore_n dX9_valueNeeded_23 rfl (by decide) ?_
    refine g_aload_n dX9_valueNeeded_24 rfl (by rfl) ?_
    refine g_iload_n dX9_valueNeeded_25 rfl (by rfl) ?_
    refine g_iconst 0 dX9_valueNeeded_26 (by rfl) ?_
    refine g_callV_e (c_X9_is hM hn i (by omega) 0) dX9_valueNeeded_27 (mX9_is) rfl lX9_76 iX9_is vX9_is (by decide) (by omega) (by exact hm) rfl rfl rfl rfl (Nat.le_of_ble_eq_true rfl) ?_
    refine g_if_eq (tgt := 45) dX9_valueNeeded_30 (by decide) (fun c_30 => ?_) (fun c_30 => ?_)
    · have hf : ¬ (m_D w).1 3 i = 0 := fun z => by rw [if_pos z] at c_30; exact absurd c_30 (by decide)
      have hno : (if ¬ π.1.1 3 i = 0 then -1 else if u_bestI (d_put π.1 3 i 2) cnt (nI cp - π.1.1 0 i) = r_NP then -1 else (v_vn (u_bestI (d_put π.1 3 i 2) cnt (nI cp - π.1.1 0 i)) (u_best (d_put π.1 3 i 2) cnt cp) (π.1.1 2 i) (π.1.1 0 i) ((1 : Int32) <<< (nI i &&& 31)) 1000 0)) = -1 := if_pos (fun z => hf ((he.2 3 (by omega) i hi).trans z))
      refine g_iconst 0 dX9_valueNeeded_45 (by rfl) ?_
      refine g_istore dX9_valueNeeded_46 (by decide) ?_
      refine g_iconst 0 dX9_valueNeeded_48 (by rfl) ?_
      refine g_istore dX9_valueNeeded_49 (by decide) ?_
      refine g_iload dX9_valueNeeded_51 (by rfl) ?_
      refine g_sipush 999 dX9_valueNeeded_53 (by rfl) ?_
      refine g_icmp_gt (tgt := 101) dX9_valueNeeded_56 (by decide) (fun c_56 => absurd c_56 (show ¬ (999 : Int32) < 0 by decide)) (fun _ => ?_)
      refine g_iload dX9_valueNeeded_59 (by rfl) ?_
      refine g_if_eq (tgt := 101) dX9_valueNeeded_61 (by decide) (fun _ => ?_) (fun c_61 => absurd rfl c_61)
      refine g_aload_n dX9_valueNeeded_101 rfl (by rfl) ?_
      refine g_iload_n dX9_valueNeeded_102 rfl (by rfl) ?_
      refine g_iconst (nI 1) dX9_valueNeeded_103 (by rfl) ?_
      refine g_iload_n dX9_valueNeeded_104 rfl (by rfl) ?_
      refine g_callV_p (c_X9_put hM hn i 1 (by omega) (w (5 + i * 4 + 1))) dX9_valueNeeded_105 (mX9_put) rfl lX9_55 iX9_put vX9_put (by decide) (by omega) (by exact hm) rfl rfl rfl rfl (Nat.le_of_ble_eq_true rfl) (fun v9 h9 z9 => ?_)
      obtain ⟨rfl, hM, qoff⟩ := z9
      have hM : m_at h9 m (upd I 0 0) w := hM.cw m_back0
      have hT := hT.off qoff (by omega)
      have hP := hP.q (qoff.wide (a' := m) (b' := m + 2) (by omega) (by omega)).l2 hM hT
      have hoff := hoff.trans (qoff.wide (a' := m) (b' := m + 21) (by omega) (by omega))
      have hm := hM.1
      have hw := hM.2
      refine g_iload_n dX9_valueNeeded_108 rfl (by rfl) ?_
      refine g_ireturn dX9_valueNeeded_109 rfl ?_
      (refine ⟨rfl, Or.inl ⟨hin, ?_, ⟨_, _, _, _, _, _, hP, rfl, hr1, hrr⟩⟩, hoff⟩; (rw [nI_clamp (by omega)]; exact congrArg (fun x => some (Value.int x)) hno.symm))
    · have hf : (m_D w).1 3 i = 0 := Classical.byContradiction fun z => c_30 (by rw [if_neg z])
      have hfπ : π.1.1 3 i = 0 := (he.2 3 (by omega) i hi).symm.trans hf
      refine g_aload_n dX9_valueNeeded_33 rfl (by rfl) ?_
      refine g_callV_p (c_X9_best hM hn okm hT) dX9_valueNeeded_34 (mX9_best) rfl lX9_123 iX9_best vX9_best (by decide) (by omega) (by exact hm) rfl rfl rfl rfl (Nat.le_of_ble_eq_true rfl) (fun v9 h9 z9 => ?_)
      obtain ⟨rfl, hT, qoff⟩ := z9
      have hM := hM.off qoff (by omega)
      have hP := hP.q qoff.r2 hM hT
      have hoff := hoff.trans (qoff.wide (a' := m) (b' := m + 21) (by omega) (by omega))
      have hm := hM.1
      have hw := hM.2
      refine g_iconst (-1) dX9_valueNeeded_37 (by rfl) ?_
      refine g_icmp_eq (tgt := 45) dX9_valueNeeded_38 (by decide) (fun c_38 => ?_) (fun c_38 => ?_)
      · have hpp : u_best (m_D w) cnt cp = r_NP := (m_best okm h100).1.mp c_38
        have hroom : cp < k_P (m_D w) cnt := Nat.lt_of_not_le fun z => (k_tell okm h100 z).2.2.2.2 hpp
        have hno : (if ¬ π.1.1 3 i = 0 then -1 else if u_bestI (d_put π.1 3 i 2) cnt (nI cp - π.1.1 0 i) = r_NP then -1 else (v_vn (u_bestI (d_put π.1 3 i 2) cnt (nI cp - π.1.1 0 i)) (u_best (d_put π.1 3 i 2) cnt cp) (π.1.1 2 i) (π.1.1 0 i) ((1 : Int32) <<< (nI i &&& 31)) 1000 0)) = -1 := by
          rw [if_neg (fun z => z hfπ)]
          have h0 := (m_bI (σ := d_put (m_D w) 3 i 2) (sz := k_s (m_D w) i) (okm.put3 (st := 2) (by omega)) (k_it okm hi).2.2.1).1.mpr (by rw [k_P_out hi hf]; omega)
          rw [← (k_it okm hi).1, (he.put (f := 3) (by omega)).bestI, show (m_D w).1 0 i = π.1.1 0 i from he.2 0 (by omega) i hi] at h0
          exact if_pos h0
        refine g_iconst 0 dX9_valueNeeded_45 (by rfl) ?_
        refine g_istore dX9_valueNeeded_46 (by decide) ?_
        refine g_iconst 0 dX9_valueNeeded_48 (by rfl) ?_
        refine g_istore dX9_valueNeeded_49 (by decide) ?_
        refine g_iload dX9_valueNeeded_51 (by rfl) ?_
        refine g_sipush 999 dX9_valueNeeded_53 (by rfl) ?_
        refine g_icmp_gt (tgt := 101) dX9_valueNeeded_56 (by decide) (fun c_56 => absurd c_56 (show ¬ (999 : Int32) < 0 by decide)) (fun _ => ?_)
        refine g_iload dX9_valueNeeded_59 (by rfl) ?_
        refine g_if_eq (tgt := 101) dX9_valueNeeded_61 (by decide) (fun _ => ?_) (fun c_61 => absurd rfl c_61)
        refine g_aload_n dX9_valueNeeded_101 rfl (by rfl) ?_
        refine g_iload_n dX9_valueNeeded_102 rfl (by rfl) ?_
        refine g_iconst (nI 1) dX9_valueNeeded_103 (by rfl) ?_
        refine g_iload_n dX9_valueNeeded_104 rfl (by rfl) ?_
        refine g_callV_p (c_X9_put hM hn i 1 (by omega) (w (5 + i * 4 + 1))) dX9_valueNeeded_105 (mX9_put) rfl lX9_55 iX9_put vX9_put (by decide) (by omega) (by exact hm) rfl rfl rfl rfl (Nat.le_of_ble_eq_true rfl) (fun v9 h9 z9 => ?_)
        obtain ⟨rfl, hM, qoff⟩ := z9
        have hM : m_at h9 m (upd I 0 0) w := hM.cw m_back0
        have hT := hT.off qoff (by omega)
        have hP := hP.q (qoff.wide (a' := m) (b' := m + 2) (by omega) (by omega)).l2 hM hT
        have hoff := hoff.trans (qoff.wide (a' := m) (b' := m + 21) (by omega) (by omega))
        have hm := hM.1
        have hw := hM.2
        refine g_iload_n dX9_valueNeeded_108 rfl (by rfl) ?_
        refine g_ireturn dX9_valueNeeded_109 rfl ?_
        (refine ⟨rfl, Or.inl ⟨hin, ?_, ⟨_, _, _, _, _, _, hP, rfl, hr1, hrr⟩⟩, hoff⟩; (rw [nI_clamp (by omega)]; exact congrArg (fun x => some (Value.int x)) hno.symm))
      · have hnp : ¬ u_best (m_D w) cnt cp = r_NP := fun z => c_38 ((m_best okm h100).1.mpr z)
        have hroom : k_P (m_D w) cnt ≤ cp := Nat.le_of_not_lt fun z => hnp (k_none okm h100 z)
        have hvx : v_vx (u_bestI (d_put (m_D w) 3 i 2) cnt (nI cp - (m_D w).1 0 i)) (u_best (d_put (m_D w) 3 i 2) cnt cp) ((m_D w).1 2 i) ((m_D w).1 0 i) ((1 : Int32) <<< (nI i &&& 31)) 1000 0 = v_vx (u_bestI (d_put π.1 3 i 2) cnt (nI cp - π.1.1 0 i)) (u_best (d_put π.1 3 i 2) cnt cp) (π.1.1 2 i) (π.1.1 0 i) ((1 : Int32) <<< (nI i &&& 31)) 1000 0 := by
          rw [(he.put (f := 3) (by omega)).bestI, (he.put (f := 3) (by omega)).best, show (m_D w).1 0 i = π.1.1 0 i from he.2 0 (by omega) i hi, show (m_D w).1 2 i = π.1.1 2 i from he.2 2 (by omega) i hi]
        refine g_iconst 1 dX9_valueNeeded_41 (by rfl) ?_
        refine g_goto (tgt := 46) dX9_valueNeeded_42 (by decide) ?_
        refine g_istore dX9_valueNeeded_46 (by decide) ?_
        refine g_iconst 0 dX9_valueNeeded_48 (by rfl) ?_
        refine g_istore dX9_valueNeeded_49 (by decide) ?_
        have loop : ∀ (r v : Nat) (h' : s_H) (y : Int32), v + r = 1000 → m_pl h' m (upd I 0 0) (upd w (5 + i * 4 + 1) y) sn P tx rp → v_vx (u_bestI (d_put (m_D w) 3 i 2) cnt (nI cp - (m_D w).1 0 i)) (u_best (d_put (m_D w) 3 i 2) cnt cp) ((m_D w).1 2 i) ((m_D w).1 0 i) ((1 : Int32) <<< (nI i &&& 31)) 1000 0 = v_vx (u_bestI (d_put (m_D w) 3 i 2) cnt (nI cp - (m_D w).1 0 i)) (u_best (d_put (m_D w) 3 i 2) cnt cp) ((m_D w).1 2 i) ((m_D w).1 0 i) ((1 : Int32) <<< (nI i &&& 31)) r v → s_off h h' m (m + 21) → s_G TX9_valueNeeded (s_rp n (fun v9 h1 => ((s_in π (nI i) ∧ v9 = some (.int (if ¬ π.1.1 3 (nI i).toNatClampNeg = 0 then -1 else if u_bestI (d_put π.1 3 (nI i).toNatClampNeg 2) cnt (nI cp - π.1.1 0 (nI i).toNatClampNeg) = r_NP then -1 else (v_vn (u_bestI (d_put π.1 3 (nI i).toNatClampNeg 2) cnt (nI cp - π.1.1 0 (nI i).toNatClampNeg)) (u_best (d_put π.1 3 (nI i).toNatClampNeg 2) cnt cp) (π.1.1 2 (nI i).toNatClampNeg) (π.1.1 0 (nI i).toNatClampNeg) ((1 : Int32) <<< (nI (nI i).toNatClampNeg &&& 31)) 1000 0))) ∧ m_R h1 m π 0) ∨ (¬ s_in π (nI i) ∧ (∃ z, v9 = some (.int z)) ∧ m_R h1 m π 1)) ∧ s_off h h1 m (m + 21)) s_no) 51 (s_lvs [(0, .ref m), (1, .int (nI i)), (2, .int (w (5 + i * 4 + 1))), (3, .int (-1)), (4, .int 1), (5, .int (nI v))]) [] h' n 0 0 := by
          intro r
          induction r with
          | zero =>
            intro v h' y hk hP hi0 hoff
            obtain rfl : v = 1000 := by omega
            have hM := hP.1
            have hT := hP.2.2.2.2.2.2.2
            have hm := hM.1
            have hw := hM.2
            refine g_iload dX9_valueNeeded_51 (by rfl) ?_
            refine g_sipush 999 dX9_valueNeeded_53 (by rfl) ?_
            refine g_icmp_gt (tgt := 101) dX9_valueNeeded_56 (by decide) (fun _ => ?_) (fun c_56 => absurd (show nI 999 < nI 1000 from by decide) c_56)
            refine g_aload_n dX9_valueNeeded_101 rfl (by rfl) ?_
            refine g_iload_n dX9_valueNeeded_102 rfl (by rfl) ?_
            refine g_iconst (nI 1) dX9_valueNeeded_103 (by rfl) ?_
            refine g_iload_n dX9_valueNeeded_104 rfl (by rfl) ?_
            refine g_callV_p (c_X9_put hM hn i 1 (by omega) (w (5 + i * 4 + 1))) dX9_valueNeeded_105 (mX9_put) rfl lX9_55 iX9_put vX9_put (by decide) (by omega) (by exact hm) rfl rfl rfl rfl (Nat.le_of_ble_eq_true rfl) (fun v9 h9 z9 => ?_)
            obtain ⟨rfl, hM, qoff⟩ := z9
            have hM : m_at h9 m (upd I 0 0) w := hM.cw m_back
            have hT := hT.off qoff (by omega)
            have hP := hP.q (qoff.wide (a' := m) (b' := m + 2) (by omega) (by omega)).l2 hM hT
            have hoff := hoff.trans (qoff.wide (a' := m) (b' := m + 21) (by omega) (by omega))
            have hm := hM.1
            have hw := hM.2
            refine g_iload_n dX9_valueNeeded_108 rfl (by rfl) ?_
            refine g_ireturn dX9_valueNeeded_109 rfl ?_
            (refine ⟨rfl, Or.inl ⟨hin, ?_, ⟨_, _, _, _, _, _, hP, rfl, hr1, hrr⟩⟩, hoff⟩; (rw [nI_clamp (by omega), if_neg (fun z => z hfπ)]; refine congrArg (fun x => some (Value.int x)) ?_; refine Eq.trans ?_ (show v_vx (u_bestI (d_put π.1 3 i 2) cnt (nI cp - π.1.1 0 i)) (u_best (d_put π.1 3 i 2) cnt cp) (π.1.1 2 i) (π.1.1 0 i) ((1 : Int32) <<< (nI i &&& 31)) 1000 0 = _ from rfl); rw [← hvx]; rw [hi0, v_vx_0]))
          | succ r ih =>
            intro v h' y hk hP hi0 hoff
            have hM := hP.1
            have hT := hP.2.2.2.2.2.2.2
            have hm := hM.1
            have hw := hM.2
            have hev : d_eq cnt (m_D (upd w (5 + i * 4 + 1) (nI v))) (d_put (m_D w) 1 i (nI v)) := m_D_put (by omega)
            have okv : d_ok (m_D (upd w (5 + i * 4 + 1) (nI v))) cnt cp := hev.sy.ok (okm.put1 (by omega))
            refine g_iload dX9_valueNeeded_51 (by rfl) ?_
            refine g_sipush 999 dX9_valueNeeded_53 (by rfl) ?_
            refine g_icmp_gt (tgt := 101) dX9_valueNeeded_56 (by decide) (fun c_56 => absurd c_56 (show ¬ nI 999 < nI v from fun z => by rw [nI_lti (by omega) (by omega)] at z; omega)) (fun _ => ?_)
            refine g_iload dX9_valueNeeded_59 (by rfl) ?_
            refine g_if_eq (tgt := 101) dX9_valueNeeded_61 (by decide) (fun c_61 => absurd c_61 (by decide)) (fun _ => ?_)
            refine g_iload_n dX9_valueNeeded_64 rfl (by rfl) ?_
            refine g_iconst (-1) dX9_valueNeeded_65 (by rfl) ?_
            refine g_icmp_ne (tgt := 101) dX9_valueNeeded_66 (by decide) (fun c_66 => absurd rfl c_66) (fun _ => ?_)
            refine g_aload_n dX9_valueNeeded_69 rfl (by rfl) ?_
            refine g_iload_n dX9_valueNeeded_70 rfl (by rfl) ?_
            refine g_iconst (nI 1) dX9_valueNeeded_71 (by rfl) ?_
            refine g_iload dX9_valueNeeded_72 (by rfl) ?_
            refine g_callV_p (c_X9_put hM hn i 1 (by omega) (nI v)) dX9_valueNeeded_74 (mX9_put) rfl lX9_55 iX9_put vX9_put (by decide) (by omega) (by exact hm) rfl rfl rfl rfl (Nat.le_of_ble_eq_true rfl) (fun v9 h9 z9 => ?_)
            obtain ⟨rfl, hM, qoff⟩ := z9
            have hM : m_at h9 m (upd I 0 0) (upd w (5 + i * 4 + 1) (nI v)) := hM.cw upd_upd
            have hT := hT.off qoff (by omega)
            have hP := hP.q (qoff.wide (a' := m) (b' := m + 2) (by omega) (by omega)).l2 hM hT
            have hoff := hoff.trans (qoff.wide (a' := m) (b' := m + 21) (by omega) (by omega))
            have hm := hM.1
            have hw := hM.2
            refine g_aload_n dX9_valueNeeded_77 rfl (by rfl) ?_
            refine g_callV_p (c_X9_best hM hn okv hT) dX9_valueNeeded_78 (mX9_best) rfl lX9_123 iX9_best vX9_best (by decide) (by omega) (by exact hm) rfl rfl rfl rfl (Nat.le_of_ble_eq_true rfl) (fun v9 h9 z9 => ?_)
            obtain ⟨rfl, hT, qoff⟩ := z9
            have hM := hM.off qoff (by omega)
            have hP := hP.q qoff.r2 hM hT
            have hoff := hoff.trans (qoff.wide (a' := m) (b' := m + 21) (by omega) (by omega))
            have hm := hM.1
            have hw := hM.2
            rw [hev.best]
            refine g_iload_n dX9_valueNeeded_81 rfl (by rfl) ?_
            refine g_callS_e (c_X9_has _ _) dX9_valueNeeded_82 (mX9_has) rfl lX9_80 sX9_has (by decide) rfl rfl (Nat.le_of_ble_eq_true rfl) ?_
            refine g_if_eq (tgt := 93) dX9_valueNeeded_85 (by decide) (fun c_85 => ?_) (fun c_85 => ?_)
            · have hpay : ¬ (¬ (u_bestI (d_put (m_D w) 3 i 2) cnt (nI cp - (m_D w).1 0 i)) = r_NP ∧ (u_best (d_put (m_D w) 3 i 2) cnt cp) < (u_bestI (d_put (m_D w) 3 i 2) cnt (nI cp - (m_D w).1 0 i)) + r_rank (nI v * (1 + (m_D w).1 2 i)) ((m_D w).1 0 i) ((1 : Int32) <<< (nI i &&& 31))) := fun z => (m_pays okm hi hf (by omega) hroom).mpr z (Classical.byContradiction fun z => by rw [if_neg z] at c_85; exact absurd c_85 (by decide))
              refine g_iconst (-1) dX9_valueNeeded_93 (by rfl) ?_
              refine g_istore_n dX9_valueNeeded_94 rfl (by decide) ?_
              refine g_iinc (nI (v + 1)) dX9_valueNeeded_95 (by rfl) (nI_inc v) ?_
              refine g_goto (tgt := 51) dX9_valueNeeded_98 (by decide) ?_
              exact g_lv (ih (v + 1) _ _ (by omega) hP (hi0.trans (by rw [v_vx_s, if_neg hpay])) hoff) ⟨rfl, rfl, rfl, rfl, rfl, rfl, trivial⟩
            · have hpay : ¬ (u_bestI (d_put (m_D w) 3 i 2) cnt (nI cp - (m_D w).1 0 i)) = r_NP ∧ (u_best (d_put (m_D w) 3 i 2) cnt cp) < (u_bestI (d_put (m_D w) 3 i 2) cnt (nI cp - (m_D w).1 0 i)) + r_rank (nI v * (1 + (m_D w).1 2 i)) ((m_D w).1 0 i) ((1 : Int32) <<< (nI i &&& 31)) := (m_pays okm hi hf (by omega) hroom).mp (fun z => c_85 (by rw [if_pos z]))
              refine g_iload dX9_valueNeeded_88 (by rfl) ?_
              refine g_goto (tgt := 94) dX9_valueNeeded_90 (by decide) ?_
              refine g_istore_n dX9_valueNeeded_94 rfl (by decide) ?_
              refine g_iinc (nI (v + 1)) dX9_valueNeeded_95 (by rfl) (nI_inc v) ?_
              refine g_goto (tgt := 51) dX9_valueNeeded_98 (by decide) ?_
              by_cases hv9 : v + 1 = 1000
              · have hv9 := hv9
                refine g_iload dX9_valueNeeded_51 (by rfl) ?_
                refine g_sipush 999 dX9_valueNeeded_53 (by rfl) ?_
                refine g_icmp_gt (tgt := 101) dX9_valueNeeded_56 (by decide) (fun _ => ?_) (fun c_56 => absurd (show nI 999 < nI (v + 1) from nI_lt (by omega) (by omega)) c_56)
                refine g_aload_n dX9_valueNeeded_101 rfl (by rfl) ?_
                refine g_iload_n dX9_valueNeeded_102 rfl (by rfl) ?_
                refine g_iconst (nI 1) dX9_valueNeeded_103 (by rfl) ?_
                refine g_iload_n dX9_valueNeeded_104 rfl (by rfl) ?_
                refine g_callV_p (c_X9_put hM hn i 1 (by omega) (w (5 + i * 4 + 1))) dX9_valueNeeded_105 (mX9_put) rfl lX9_55 iX9_put vX9_put (by decide) (by omega) (by exact hm) rfl rfl rfl rfl (Nat.le_of_ble_eq_true rfl) (fun v9 h9 z9 => ?_)
                obtain ⟨rfl, hM, qoff⟩ := z9
                have hM : m_at h9 m (upd I 0 0) w := hM.cw m_back
                have hT := hT.off qoff (by omega)
                have hP := hP.q (qoff.wide (a' := m) (b' := m + 2) (by omega) (by omega)).l2 hM hT
                have hoff := hoff.trans (qoff.wide (a' := m) (b' := m + 21) (by omega) (by omega))
                have hm := hM.1
                have hw := hM.2
                refine g_iload_n dX9_valueNeeded_108 rfl (by rfl) ?_
                refine g_ireturn dX9_valueNeeded_109 rfl ?_
                (refine ⟨rfl, Or.inl ⟨hin, ?_, ⟨_, _, _, _, _, _, hP, rfl, hr1, hrr⟩⟩, hoff⟩; (rw [nI_clamp (by omega), if_neg (fun z => z hfπ)]; refine congrArg (fun x => some (Value.int x)) ?_; refine Eq.trans ?_ (show v_vx (u_bestI (d_put π.1 3 i 2) cnt (nI cp - π.1.1 0 i)) (u_best (d_put π.1 3 i 2) cnt cp) (π.1.1 2 i) (π.1.1 0 i) ((1 : Int32) <<< (nI i &&& 31)) 1000 0 = _ from rfl); rw [← hvx]; rw [hi0, v_vx_s, if_pos hpay]))
              · have hv9 := hv9
                refine g_iload dX9_valueNeeded_51 (by rfl) ?_
                refine g_sipush 999 dX9_valueNeeded_53 (by rfl) ?_
                refine g_icmp_gt (tgt := 101) dX9_valueNeeded_56 (by decide) (fun c_56 => absurd c_56 (show ¬ nI 999 < nI (v + 1) from fun z => by rw [nI_lti (by omega) (by omega)] at z; omega)) (fun _ => ?_)
                refine g_iload dX9_valueNeeded_59 (by rfl) ?_
                refine g_if_eq (tgt := 101) dX9_valueNeeded_61 (by decide) (fun c_61 => absurd c_61 (by decide)) (fun _ => ?_)
                refine g_iload_n dX9_valueNeeded_64 rfl (by rfl) ?_
                refine g_iconst (-1) dX9_valueNeeded_65 (by rfl) ?_
                refine g_icmp_ne (tgt := 101) dX9_valueNeeded_66 (by decide) (fun _ => ?_) (fun c_66 => absurd c_66 (nI_m1 (by omega)))
                refine g_aload_n dX9_valueNeeded_101 rfl (by rfl) ?_
                refine g_iload_n dX9_valueNeeded_102 rfl (by rfl) ?_
                refine g_iconst (nI 1) dX9_valueNeeded_103 (by rfl) ?_
                refine g_iload_n dX9_valueNeeded_104 rfl (by rfl) ?_
                refine g_callV_p (c_X9_put hM hn i 1 (by omega) (w (5 + i * 4 + 1))) dX9_valueNeeded_105 (mX9_put) rfl lX9_55 iX9_put vX9_put (by decide) (by omega) (by exact hm) rfl rfl rfl rfl (Nat.le_of_ble_eq_true rfl) (fun v9 h9 z9 => ?_)
                obtain ⟨rfl, hM, qoff⟩ := z9
                have hM : m_at h9 m (upd I 0 0) w := hM.cw m_back
                have hT := hT.off qoff (by omega)
                have hP := hP.q (qoff.wide (a' := m) (b' := m + 2) (by omega) (by omega)).l2 hM hT
                have hoff := hoff.trans (qoff.wide (a' := m) (b' := m + 21) (by omega) (by omega))
                have hm := hM.1
                have hw := hM.2
                refine g_iload_n dX9_valueNeeded_108 rfl (by rfl) ?_
                refine g_ireturn dX9_valueNeeded_109 rfl ?_
                (refine ⟨rfl, Or.inl ⟨hin, ?_, ⟨_, _, _, _, _, _, hP, rfl, hr1, hrr⟩⟩, hoff⟩; (rw [nI_clamp (by omega), if_neg (fun z => z hfπ)]; refine congrArg (fun x => some (Value.int x)) ?_; refine Eq.trans ?_ (show v_vx (u_bestI (d_put π.1 3 i 2) cnt (nI cp - π.1.1 0 i)) (u_best (d_put π.1 3 i 2) cnt cp) (π.1.1 2 i) (π.1.1 0 i) ((1 : Int32) <<< (nI i &&& 31)) 1000 0 = _ from rfl); rw [← hvx]; rw [hi0, v_vx_s, if_pos hpay]))
        exact g_lv (loop 1000 0 _ (w (5 + i * 4 + 1)) (by omega) (by rw [show upd w (5 + i * 4 + 1) (w (5 + i * 4 + 1)) = w from m_back0]; exact hP) rfl hoff) ⟨rfl, rfl, rfl, rfl, rfl, rfl, trivial⟩
  · have hno : ¬ (¬ x < 0 ∧ x < nI cnt) := fun z => c_10 (by rw [if_pos z])
    rw [if_neg hno] at hM hP
    have hin : ¬ s_in π x := by unfold s_in; rw [ok.1]; exact hno
    have hm := hM.1
    have hw := hM.2
    refine g_iconst 0 dX9_valueNeeded_13 (by rfl) ?_
    refine g_ireturn dX9_valueNeeded_14 rfl ?_
    exact ⟨rfl, Or.inr ⟨hin, ⟨_, rfl⟩, ⟨_, _, _, _, _, _, hP, rfl, hr1, hrr⟩⟩, hoff⟩
