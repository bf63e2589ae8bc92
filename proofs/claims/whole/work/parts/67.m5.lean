/-! THE MODEL: the greedy plan and the bound -/
def m_on : Option Nat → Int32
  | none => -1
  | some j => nI j
theorem dw_no {P : Nat → Nat → Prop} {ask : Nat → Bool} {k : Nat} (h : ¬ ask k = true) : ka_dw P ask (k + 1) = ka_dw P ask k := if_neg h
theorem dw_0 {P : Nat → Nat → Prop} {ask : Nat → Bool} {k : Nat} (h : ask k = true) (hd : ka_dw P ask k = none) : ka_dw P ask (k + 1) = some k := by
  unfold ka_dw
  rw [if_pos h, hd]
theorem dw_y {P : Nat → Nat → Prop} {ask : Nat → Bool} {k b : Nat} (h : ask k = true) (hd : ka_dw P ask k = some b) (hp : P k b) : ka_dw P ask (k + 1) = some k := by
  unfold ka_dw
  rw [if_pos h, hd]
  exact if_pos hp
theorem dw_n {P : Nat → Nat → Prop} {ask : Nat → Bool} {k b : Nat} (h : ask k = true) (hd : ka_dw P ask k = some b) (hp : ¬ P k b) : ka_dw P ask (k + 1) = some b := by
  unfold ka_dw
  rw [if_pos h, hd]
  exact if_neg hp
theorem nI_m1 {k : Nat} (h : k < 2147483648) : ¬ nI k = -1 := fun z => by
  have := congrArg Int32.toInt z
  rw [nI_ti h] at this
  have e : (-1 : Int32).toInt = -1 := by decide
  omega

theorem c_X9_densestWithout {h : s_H} {n m : Nat} {I w : Nat → Int32} (hM : m_at h m I w) (hn : m + 21 ≤ n) {cnt cp : Nat} (ok : d_ok (m_D w) cnt cp) {M : Nat} (hMl : M < 16384) : s_Mt TX9_densestWithout 0 0 [.ref m, .int (nI M)] h n (s_re (some (.int (m_on (ka_dw (g_bf (m_D w)) (fun j => k_f (m_D w) j && !Nat.testBit M j) cnt)))) h n) := by
  have hm := hM.1
  have hw := hM.2
  have hc := ok.1
  have h14 := ok.2.1
  have hcp := ok.2.2.1
  have h100 := ok.2.2.2.1
  have loop : ∀ (d k : Nat), k + d = cnt → s_G TX9_densestWithout (s_re (some (.int (m_on (ka_dw (g_bf (m_D w)) (fun j => k_f (m_D w) j && !Nat.testBit M j) cnt)))) h n) 4 (s_lvs [(0, .ref m), (1, .int (nI M)), (2, .int (m_on (ka_dw (g_bf (m_D w)) (fun j => k_f (m_D w) j && !Nat.testBit M j) k))), (3, .int (nI k))]) [] h n 0 0 := by
    intro d
    induction d with
    | zero =>
      intro k hk
      refine g_iload_n dX9_densestWithout_4 rfl (by rfl) ?_
      refine g_aload_n dX9_densestWithout_5 rfl (by rfl) ?_
      refine g_getf dX9_densestWithout_6 fX9_9 (by exact hm) (by omega) (by rfl) ?_
      refine g_iconst 1 dX9_densestWithout_9 (by rfl) ?_
      refine g_iald dX9_densestWithout_10 (by exact hw) (by omega) (show (1 : Int32) = nI 1 from rfl) (by decide) (by omega) ?_
      refine g_icmp_ge (tgt := 69) dX9_densestWithout_11 (by decide) (fun _ => ?_) (fun c_11 => absurd (by rw [show w 1 = nI cnt from hc]; exact nI_le (by omega) (by omega)) c_11)
      refine g_iload_n dX9_densestWithout_69 rfl (by rfl) ?_
      refine g_ireturn dX9_densestWithout_70 rfl ?_
      obtain rfl : k = cnt := by omega
      exact ⟨rfl, rfl, rfl⟩
    | succ d ih =>
      intro k hk
      refine g_iload_n dX9_densestWithout_4 rfl (by rfl) ?_
      refine g_aload_n dX9_densestWithout_5 rfl (by rfl) ?_
      refine g_getf dX9_densestWithout_6 fX9_9 (by exact hm) (by omega) (by rfl) ?_
      refine g_iconst 1 dX9_densestWithout_9 (by rfl) ?_
      refine g_iald dX9_densestWithout_10 (by exact hw) (by omega) (show (1 : Int32) = nI 1 from rfl) (by decide) (by omega) ?_
      refine g_icmp_ge (tgt := 69) dX9_densestWithout_11 (by decide) (fun c_11 => absurd c_11 (by rw [show w 1 = nI cnt from hc]; exact nI_ge (by omega) (by omega))) (fun _ => ?_)
      refine g_aload_n dX9_densestWithout_14 rfl (by rfl) ?_
      refine g_iload_n dX9_densestWithout_15 rfl (by rfl) ?_
      refine g_iconst 0 dX9_densestWithout_16 (by rfl) ?_
      refine g_callV_e (c_X9_is hM hn k (by omega) 0) dX9_densestWithout_17 (mX9_is) rfl lX9_76 iX9_is vX9_is (by decide) (by omega) (by exact hm) rfl rfl rfl rfl (Nat.le_of_ble_eq_true rfl) ?_
      refine g_if_eq (tgt := 35) dX9_densestWithout_20 (by decide) (fun c_20 => ?_) (fun c_20 => ?_)
      · have hf : ¬ (m_D w).1 3 k = 0 := fun z => by rw [if_pos z] at c_20; exact absurd c_20 (by decide)
        have ha : ¬ (fun j => k_f (m_D w) j && !Nat.testBit M j) k = true := fun z => hf (of_decide_eq_true (Bool.and_eq_true_iff.mp z).1)
        refine g_iconst 0 dX9_densestWithout_35 (by rfl) ?_
        refine g_istore dX9_densestWithout_36 (by decide) ?_
        refine g_iload dX9_densestWithout_38 (by rfl) ?_
        refine g_if_eq (tgt := 61) dX9_densestWithout_40 (by decide) (fun _ => ?_) (fun c_40 => absurd rfl c_40)
        refine g_iload_n dX9_densestWithout_61 rfl (by rfl) ?_
        refine g_istore_n dX9_densestWithout_62 rfl (by decide) ?_
        refine g_iinc (nI (k + 1)) dX9_densestWithout_63 (by rfl) (nI_inc k) ?_
        refine g_goto (tgt := 4) dX9_densestWithout_66 (by decide) ?_
        refine g_lv (ih (k + 1) (by omega)) ⟨rfl, rfl, ?_, rfl, trivial⟩
        show some _ = some _
        first | (rw [dw_no ha]; done) | (rw [dw_no ha]; rfl)
      · have hf : (m_D w).1 3 k = 0 := Classical.byContradiction fun z => c_20 (by rw [if_neg z])
        refine g_iload_n dX9_densestWithout_23 rfl (by rfl) ?_
        refine g_iload_n dX9_densestWithout_24 rfl (by rfl) ?_
        refine g_callS_e (c_X9_has _ _) dX9_densestWithout_25 (mX9_has) rfl lX9_80 sX9_has (by decide) rfl rfl (Nat.le_of_ble_eq_true rfl) ?_
        rw [b_bit (show M < 2147483648 by omega) (by omega)]
        refine g_if_ne (tgt := 35) dX9_densestWithout_28 (by decide) (fun c_28 => ?_) (fun c_28 => ?_)
        · have ht : Nat.testBit M k = true := Classical.byContradiction fun z => c_28 (by rw [if_neg z]; rfl)
          have ha : ¬ (fun j => k_f (m_D w) j && !Nat.testBit M j) k = true := fun z => by rw [show (fun j => k_f (m_D w) j && !Nat.testBit M j) k = (k_f (m_D w) k && !Nat.testBit M k) from rfl, ht, Bool.not_true, Bool.and_false] at z; cases z
          refine g_iconst 0 dX9_densestWithout_35 (by rfl) ?_
          refine g_istore dX9_densestWithout_36 (by decide) ?_
          refine g_iload dX9_densestWithout_38 (by rfl) ?_
          refine g_if_eq (tgt := 61) dX9_densestWithout_40 (by decide) (fun _ => ?_) (fun c_40 => absurd rfl c_40)
          refine g_iload_n dX9_densestWithout_61 rfl (by rfl) ?_
          refine g_istore_n dX9_densestWithout_62 rfl (by decide) ?_
          refine g_iinc (nI (k + 1)) dX9_densestWithout_63 (by rfl) (nI_inc k) ?_
          refine g_goto (tgt := 4) dX9_densestWithout_66 (by decide) ?_
          refine g_lv (ih (k + 1) (by omega)) ⟨rfl, rfl, ?_, rfl, trivial⟩
          show some _ = some _
          first | (rw [dw_no ha]; done) | (rw [dw_no ha]; rfl)
        · have ht : Nat.testBit M k = false := Bool.eq_false_iff.mpr fun z => by rw [if_pos z] at c_28; exact absurd c_28 (by decide)
          have ha : (fun j => k_f (m_D w) j && !Nat.testBit M j) k = true := by rw [show (fun j => k_f (m_D w) j && !Nat.testBit M j) k = (k_f (m_D w) k && !Nat.testBit M k) from rfl, ht, show k_f (m_D w) k = true from decide_eq_true hf]; rfl
          refine g_lv (l := [(0, .ref m), (1, .int (nI M)), (2, .int (m_on (ka_dw (g_bf (m_D w)) (fun j => k_f (m_D w) j && !Nat.testBit M j) k))), (3, .int (nI k))]) ?_ ⟨rfl, rfl, rfl, rfl, trivial⟩
          cases hd : (ka_dw (g_bf (m_D w)) (fun j => k_f (m_D w) j && !Nat.testBit M j) k) with
          | none =>
            rw [show m_on none = -1 from rfl]
            refine g_iconst 1 dX9_densestWithout_31 (by rfl) ?_
            refine g_goto (tgt := 36) dX9_densestWithout_32 (by decide) ?_
            refine g_istore dX9_densestWithout_36 (by decide) ?_
            refine g_iload dX9_densestWithout_38 (by rfl) ?_
            refine g_if_eq (tgt := 61) dX9_densestWithout_40 (by decide) (fun c_40 => absurd c_40 (by decide)) (fun _ => ?_)
            refine g_iload_n dX9_densestWithout_43 rfl (by rfl) ?_
            refine g_iconst (-1) dX9_densestWithout_44 (by rfl) ?_
            refine g_icmp_eq (tgt := 57) dX9_densestWithout_45 (by decide) (fun _ => ?_) (fun c_45 => absurd rfl c_45)
            refine g_iload_n dX9_densestWithout_57 rfl (by rfl) ?_
            refine g_goto (tgt := 62) dX9_densestWithout_58 (by decide) ?_
            refine g_istore_n dX9_densestWithout_62 rfl (by decide) ?_
            refine g_iinc (nI (k + 1)) dX9_densestWithout_63 (by rfl) (nI_inc k) ?_
            refine g_goto (tgt := 4) dX9_densestWithout_66 (by decide) ?_
            refine g_lv (ih (k + 1) (by omega)) ⟨rfl, rfl, ?_, rfl, trivial⟩
            show some _ = some _
            first | (rw [dw_0 ha hd]; done) | (rw [dw_0 ha hd]; rfl)
          | some b =>
            have hb := ((ka_dw_ok (g_bf_tr ok) k (by omega)).2 b hd).1
            rw [show m_on (some b) = nI b from rfl]
            refine g_iconst 1 dX9_densestWithout_31 (by rfl) ?_
            refine g_goto (tgt := 36) dX9_densestWithout_32 (by decide) ?_
            refine g_istore dX9_densestWithout_36 (by decide) ?_
            refine g_iload dX9_densestWithout_38 (by rfl) ?_
            refine g_if_eq (tgt := 61) dX9_densestWithout_40 (by decide) (fun c_40 => absurd c_40 (by decide)) (fun _ => ?_)
            refine g_iload_n dX9_densestWithout_43 rfl (by rfl) ?_
            refine g_iconst (-1) dX9_densestWithout_44 (by rfl) ?_
            refine g_icmp_eq (tgt := 57) dX9_densestWithout_45 (by decide) (fun c_45 => absurd c_45 (nI_m1 (k := b) (by omega))) (fun _ => ?_)
            refine g_aload_n dX9_densestWithout_48 rfl (by rfl) ?_
            refine g_iload_n dX9_densestWithout_49 rfl (by rfl) ?_
            refine g_iload_n dX9_densestWithout_50 rfl (by rfl) ?_
            refine g_callV_e (c_X9_isDenser hM hn ok (i := k) (j := b) (by omega) hb) dX9_densestWithout_51 (mX9_isDenser) rfl lX9_117 iX9_isDenser vX9_isDenser (by decide) (by omega) (by exact hm) rfl rfl rfl rfl (Nat.le_of_ble_eq_true rfl) ?_
            refine g_if_eq (tgt := 61) dX9_densestWithout_54 (by decide) (fun c_54 => ?_) (fun c_54 => ?_)
            · have hp : ¬ g_bf (m_D w) k b := fun z => by rw [g_bi1 z] at c_54; exact absurd c_54 (by decide)
              refine g_iload_n dX9_densestWithout_61 rfl (by rfl) ?_
              refine g_istore_n dX9_densestWithout_62 rfl (by decide) ?_
              refine g_iinc (nI (k + 1)) dX9_densestWithout_63 (by rfl) (nI_inc k) ?_
              refine g_goto (tgt := 4) dX9_densestWithout_66 (by decide) ?_
              refine g_lv (ih (k + 1) (by omega)) ⟨rfl, rfl, ?_, rfl, trivial⟩
              show some _ = some _
              first | (rw [dw_y ha hd hp]; rfl) | (rw [dw_n ha hd hp]; rfl)
            · have hp : g_bf (m_D w) k b := Classical.byContradiction fun z => c_54 (by rw [g_bi0 z])
              refine g_iload_n dX9_densestWithout_57 rfl (by rfl) ?_
              refine g_goto (tgt := 62) dX9_densestWithout_58 (by decide) ?_
              refine g_istore_n dX9_densestWithout_62 rfl (by decide) ?_
              refine g_iinc (nI (k + 1)) dX9_densestWithout_63 (by rfl) (nI_inc k) ?_
              refine g_goto (tgt := 4) dX9_densestWithout_66 (by decide) ?_
              refine g_lv (ih (k + 1) (by omega)) ⟨rfl, rfl, ?_, rfl, trivial⟩
              show some _ = some _
              first | (rw [dw_y ha hd hp]; rfl) | (rw [dw_n ha hd hp]; rfl)
  refine s_Mt_of rfl (by decide) (by exact Nat.le_of_ble_eq_true rfl) ?_
  refine g_iconst (-1) dX9_densestWithout_0 (by rfl) ?_
  refine g_istore_n dX9_densestWithout_1 rfl (by decide) ?_
  refine g_iconst 0 dX9_densestWithout_2 (by rfl) ?_
  refine g_istore_n dX9_densestWithout_3 rfl (by decide) ?_
  exact g_lv (loop cnt 0 (by omega)) ⟨rfl, rfl, rfl, rfl, trivial⟩

/-- the items that were looked at so far -/
def m_sn (σ : s_D) (cnt q M : Nat) : Prop := M < 16384 ∧ ∀ j, j < cnt → (Nat.testBit M j = true ↔ ∃ p, p < q ∧ (g_srt σ cnt).1 p = j)
theorem m_sn0 {σ : s_D} {cnt : Nat} : m_sn σ cnt 0 0 := ⟨by omega, fun j hj => ⟨(fun z => by rw [Nat.zero_testBit] at z; cases z), fun z => z.elim fun p q => absurd q.1 (Nat.not_lt_zero p)⟩⟩
theorem m_sn_s {σ : s_D} {cnt q M : Nat} (h14 : cnt ≤ 14) (h : m_sn σ cnt q M) (ho : (g_srt σ cnt).1 q < cnt) : m_sn σ cnt (q + 1) (M ||| 2 ^ (g_srt σ cnt).1 q) := by
  refine ⟨Nat.or_lt_two_pow (n := 14) h.1 (Nat.pow_lt_pow_right (by omega) (by omega)), fun j hj => ?_⟩
  rw [Nat.testBit_or, Nat.testBit_two_pow, Bool.or_eq_true, h.2 j hj, decide_eq_true_iff]
  constructor
  · rintro (⟨p, p1, p2⟩ | e)
    · exact ⟨p, by omega, p2⟩
    · exact ⟨q, by omega, e⟩
  · rintro ⟨p, p1, p2⟩
    by_cases e : p = q
    · subst e; exact Or.inr p2
    · exact Or.inl ⟨p, by omega, p2⟩
/-- which item comes next -/
noncomputable def m_nx (σ : s_D) (cnt q : Nat) : Int32 := @ite _ (q < (g_srt σ cnt).2) (Classical.propDecidable _) (nI ((g_srt σ cnt).1 q)) (-1)
theorem m_sel {σ : s_D} {cnt cp q M : Nat} (ok : d_ok σ cnt cp) (h : m_sn σ cnt q M) (hq : q ≤ (g_srt σ cnt).2) : m_on (ka_dw (g_bf σ) (fun j => k_f σ j && !Nat.testBit M j) cnt) = m_nx σ cnt q := by
  unfold m_sn at h
  rw [g_srt_ka] at h hq
  rw [ka_sel (g_bf_tr ok) (seen := fun j => Nat.testBit M j) h.2 hq]
  unfold m_nx
  rw [g_srt_ka]
  by_cases e : q < (ka_srt (g_bf σ) (k_f σ) cnt).2
  · rw [if_pos e, if_pos e]; rfl
  · rw [if_neg e, if_neg e]; rfl
theorem m_nx_y {σ : s_D} {cnt q : Nat} (h : q < (g_srt σ cnt).2) : m_nx σ cnt q = nI ((g_srt σ cnt).1 q) := if_pos h
theorem m_nx_n {σ : s_D} {cnt q : Nat} (h : ¬ q < (g_srt σ cnt).2) : m_nx σ cnt q = -1 := if_neg h
theorem m_o {σ : s_D} {cnt cp q : Nat} (ok : d_ok σ cnt cp) (h : q < (g_srt σ cnt).2) : (g_srt σ cnt).1 q < cnt := by
  rw [g_srt_ka] at h ⊢
  exact ((ka_srt_ok (fr := k_f σ) (g_bf_tr ok) cnt (Nat.le_refl _)).1 q h).1
theorem m_tfM {σ : s_D} {cnt cp : Nat} (ok : d_ok σ cnt cp) : ∀ q, q ≤ (g_srt σ cnt).2 → ∃ M, M < 16384 ∧ (g_tf σ (g_srt σ cnt).1 (d_set σ 1 cnt) (d_room σ cnt) q).1 = nI M
  | 0, _ => by
    have h14 := ok.2.1
    exact ⟨_, ka_M14 h14, k_dset (by omega)⟩
  | q + 1, h => by
    have h14 := ok.2.1
    obtain ⟨M, h1, h2⟩ := m_tfM ok q (by omega)
    have ho := m_o ok (show q < (g_srt σ cnt).2 by omega)
    unfold g_tf
    split
    · exact ⟨M, h1, h2⟩
    · refine ⟨M ||| 2 ^ (g_srt σ cnt).1 q, Nat.or_lt_two_pow (n := 14) h1 (Nat.pow_lt_pow_right (by omega) (by omega)), ?_⟩
      dsimp only
      rw [h2, b_sh _ (by omega), nI_or]
theorem v_gp_m1 {σ : s_D} {cnt cp : Nat} (ok : d_ok σ cnt cp) : ¬ v_gp σ cnt = -1 := by
  obtain ⟨M, h1, h2⟩ := m_tfM ok _ (Nat.le_refl _)
  unfold v_gp
  rw [h2]
  exact nI_m1 (by omega)

theorem c_X9_greedy {h : s_H} {n m : Nat} {I w : Nat → Int32} (hM : m_at h m I w) (hn : m + 21 ≤ n) {cnt cp : Nat} (ok : d_ok (m_D w) cnt cp) : s_Mt TX9_greedy 0 0 [.ref m] h n (s_re (some (.int (if d_room (m_D w) cnt < 0 then -1 else v_gp (m_D w) cnt))) h n) := by
  have hm := hM.1
  have hw := hM.2
  have hc := ok.1
  have h14 := ok.2.1
  have hcp := ok.2.2.1
  have h100 := ok.2.2.2.1
  have loop : ∀ (d q M : Nat), q + d = (g_srt (m_D w) cnt).2 → m_sn (m_D w) cnt q M → ¬ d_room (m_D w) cnt < 0 → s_G TX9_greedy (s_re (some (.int (if d_room (m_D w) cnt < 0 then -1 else v_gp (m_D w) cnt))) h n) 32 (s_lvs [(0, .ref m), (1, .int (g_tf (m_D w) (g_srt (m_D w) cnt).1 (d_set (m_D w) 1 cnt) (d_room (m_D w) cnt) q).2), (2, .int (g_tf (m_D w) (g_srt (m_D w) cnt).1 (d_set (m_D w) 1 cnt) (d_room (m_D w) cnt) q).1), (3, .int (nI M)), (4, .int (m_nx (m_D w) cnt q))]) [] h n 0 0 := by
    intro d
    induction d with
    | zero =>
      intro q M hd hs hneg
      refine g_iload dX9_greedy_32 (by rfl) ?_
      refine g_iconst (-1) dX9_greedy_34 (by rfl) ?_
      refine g_icmp_eq (tgt := 83) dX9_greedy_35 (by decide) (fun _ => ?_) (fun c_35 => absurd (m_nx_n (by omega)) c_35)
      refine g_iload_n dX9_greedy_83 rfl (by rfl) ?_
      refine g_ireturn dX9_greedy_84 rfl ?_
      have e : q = (g_srt (m_D w) cnt).2 := by omega
      subst e
      exact ⟨by rw [if_neg hneg]; rfl, rfl, rfl⟩
    | succ d ih =>
      intro q M hd hs hneg
      have ih := fun q M h1 h2 => ih q M h1 h2 hneg
      have hq : q < (g_srt (m_D w) cnt).2 := by omega
      have ho := m_o ok hq
      refine g_iload dX9_greedy_32 (by rfl) ?_
      rw [m_nx_y hq]
      refine g_iconst (-1) dX9_greedy_34 (by rfl) ?_
      refine g_icmp_eq (tgt := 83) dX9_greedy_35 (by decide) (fun c_35 => absurd c_35 (nI_m1 (by omega))) (fun _ => ?_)
      refine g_iload_n dX9_greedy_38 rfl (by rfl) ?_
      refine g_iconst 1 dX9_greedy_39 (by rfl) ?_
      refine g_iload dX9_greedy_40 (by rfl) ?_
      refine g_ishl dX9_greedy_42 ?_
      refine g_ior dX9_greedy_43 ?_
      rw [b_sh _ (by omega), nI_or]
      refine g_istore_n dX9_greedy_44 rfl (by decide) ?_
      have hs := m_sn_s h14 hs ho
      refine g_aload_n dX9_greedy_45 rfl (by rfl) ?_
      refine g_iload dX9_greedy_46 (by rfl) ?_
      refine g_iconst (nI 0) dX9_greedy_48 (by rfl) ?_
      refine g_callV_e (c_X9_of hM hn ((g_srt (m_D w) cnt).1 q) 0 (by omega)) dX9_greedy_49 (mX9_of) rfl lX9_73 iX9_of vX9_of (by decide) (by omega) (by exact hm) rfl rfl rfl rfl (Nat.le_of_ble_eq_true rfl) ?_
      refine g_iload_n dX9_greedy_52 rfl (by rfl) ?_
      refine g_icmp_gt (tgt := 73) dX9_greedy_53 (by decide) (fun c_53 => ?_) (fun c_53 => ?_)
      · have e : (g_tf (m_D w) (g_srt (m_D w) cnt).1 (d_set (m_D w) 1 cnt) (d_room (m_D w) cnt) (q + 1)) = (g_tf (m_D w) (g_srt (m_D w) cnt).1 (d_set (m_D w) 1 cnt) (d_room (m_D w) cnt) q) := if_pos c_53
        refine g_aload_n dX9_greedy_73 rfl (by rfl) ?_
        refine g_iload_n dX9_greedy_74 rfl (by rfl) ?_
        refine g_callV_e (c_X9_densestWithout hM hn ok hs.1) dX9_greedy_75 (mX9_densestWithout) rfl lX9_120 iX9_densestWithout vX9_densestWithout (by decide) (by omega) (by exact hm) rfl rfl rfl rfl (Nat.le_of_ble_eq_true rfl) ?_
        rw [m_sel ok hs (by omega)]
        refine g_istore dX9_greedy_78 (by decide) ?_
        refine g_goto (tgt := 32) dX9_greedy_80 (by decide) ?_
        exact g_lv (ih (q + 1) _ (by omega) hs) ⟨rfl, by rw [e]; rfl, by rw [e]; rfl, rfl, rfl, trivial⟩
      · have e : (g_tf (m_D w) (g_srt (m_D w) cnt).1 (d_set (m_D w) 1 cnt) (d_room (m_D w) cnt) (q + 1)) = ((g_tf (m_D w) (g_srt (m_D w) cnt).1 (d_set (m_D w) 1 cnt) (d_room (m_D w) cnt) q).1 ||| ((1 : Int32) <<< (nI ((g_srt (m_D w) cnt).1 q) &&& 31)), (g_tf (m_D w) (g_srt (m_D w) cnt).1 (d_set (m_D w) 1 cnt) (d_room (m_D w) cnt) q).2 - (m_D w).1 0 ((g_srt (m_D w) cnt).1 q)) := if_neg c_53
        refine g_iload_n dX9_greedy_56 rfl (by rfl) ?_
        refine g_iconst 1 dX9_greedy_57 (by rfl) ?_
        refine g_iload dX9_greedy_58 (by rfl) ?_
        refine g_ishl dX9_greedy_60 ?_
        refine g_ior dX9_greedy_61 ?_
        refine g_istore_n dX9_greedy_62 rfl (by decide) ?_
        refine g_iload_n dX9_greedy_63 rfl (by rfl) ?_
        refine g_aload_n dX9_greedy_64 rfl (by rfl) ?_
        refine g_iload dX9_greedy_65 (by rfl) ?_
        refine g_iconst (nI 0) dX9_greedy_67 (by rfl) ?_
        refine g_callV_e (c_X9_of hM hn ((g_srt (m_D w) cnt).1 q) 0 (by omega)) dX9_greedy_68 (mX9_of) rfl lX9_73 iX9_of vX9_of (by decide) (by omega) (by exact hm) rfl rfl rfl rfl (Nat.le_of_ble_eq_true rfl) ?_
        refine g_isub dX9_greedy_71 ?_
        refine g_istore_n dX9_greedy_72 rfl (by decide) ?_
        refine g_aload_n dX9_greedy_73 rfl (by rfl) ?_
        refine g_iload_n dX9_greedy_74 rfl (by rfl) ?_
        refine g_callV_e (c_X9_densestWithout hM hn ok hs.1) dX9_greedy_75 (mX9_densestWithout) rfl lX9_120 iX9_densestWithout vX9_densestWithout (by decide) (by omega) (by exact hm) rfl rfl rfl rfl (Nat.le_of_ble_eq_true rfl) ?_
        rw [m_sel ok hs (by omega)]
        refine g_istore dX9_greedy_78 (by decide) ?_
        refine g_goto (tgt := 32) dX9_greedy_80 (by decide) ?_
        exact g_lv (ih (q + 1) _ (by omega) hs) ⟨rfl, by rw [e]; rfl, by rw [e]; rfl, rfl, rfl, trivial⟩
  refine s_Mt_of rfl (by decide) (by exact Nat.le_of_ble_eq_true rfl) ?_
  refine g_aload_n dX9_greedy_0 rfl (by rfl) ?_
  refine g_aload_n dX9_greedy_1 rfl (by rfl) ?_
  refine g_getf dX9_greedy_2 fX9_9 (by exact hm) (by omega) (by rfl) ?_
  refine g_iconst 0 dX9_greedy_5 (by rfl) ?_
  refine g_iald dX9_greedy_6 (by exact hw) (by omega) (show (0 : Int32) = nI 0 from rfl) (by decide) (by omega) ?_
  refine g_callV_e (c_X9_roomFor hM hn hc h14 (w 0)) dX9_greedy_7 (mX9_roomFor) rfl lX9_99 iX9_roomFor vX9_roomFor (by decide) (by omega) (by exact hm) rfl rfl rfl rfl (Nat.le_of_ble_eq_true rfl) ?_
  change s_G _ _ _ _ [.int (d_room (m_D w) cnt)] _ _ _ _
  refine g_istore_n dX9_greedy_10 rfl (by decide) ?_
  refine g_iload_n dX9_greedy_11 rfl (by rfl) ?_
  refine g_if_ge (tgt := 17) dX9_greedy_12 (by decide) (fun c_12 => ?_) (fun c_12 => ?_)
  · have hneg : ¬ d_room (m_D w) cnt < 0 := Int32.not_lt.mpr c_12
    refine g_aload_n dX9_greedy_17 rfl (by rfl) ?_
    refine g_iconst 1 dX9_greedy_18 (by rfl) ?_
    refine g_callV_e (c_X9_inState hM hn hc h14 1) dX9_greedy_19 (mX9_inState) rfl lX9_93 iX9_inState vX9_inState (by decide) (by omega) (by exact hm) rfl rfl rfl rfl (Nat.le_of_ble_eq_true rfl) ?_
    refine g_istore_n dX9_greedy_22 rfl (by decide) ?_
    refine g_iconst 0 dX9_greedy_23 (by rfl) ?_
    refine g_istore_n dX9_greedy_24 rfl (by decide) ?_
    refine g_aload_n dX9_greedy_25 rfl (by rfl) ?_
    refine g_iload_n dX9_greedy_26 rfl (by rfl) ?_
    refine g_callV_e (c_X9_densestWithout hM hn ok (M := 0) (by omega)) dX9_greedy_27 (mX9_densestWithout) rfl lX9_120 iX9_densestWithout vX9_densestWithout (by decide) (by omega) (by exact hm) rfl rfl rfl rfl (Nat.le_of_ble_eq_true rfl) ?_
    rw [m_sel ok m_sn0 (Nat.zero_le _)]
    refine g_istore dX9_greedy_30 (by decide) ?_
    exact g_lv (loop (g_srt (m_D w) cnt).2 0 0 (by omega) m_sn0 hneg) ⟨rfl, rfl, rfl, rfl, rfl, trivial⟩
  · have hneg : d_room (m_D w) cnt < 0 := Int32.not_le.mp c_12
    refine g_iconst (-1) dX9_greedy_15 (by rfl) ?_
    refine g_ireturn dX9_greedy_16 rfl ?_
    exact ⟨by rw [if_pos hneg], rfl, rfl⟩

theorem c_X9_bound {h : s_H} {n m : Nat} {I w : Nat → Int32} (hM : m_at h m I w) (hn : m + 21 ≤ n) {cnt cp : Nat} (ok : d_ok (m_D w) cnt cp) : s_Mt TX9_bound 0 0 [.ref m] h n (s_re (some (.int (if d_room (m_D w) cnt < 0 then -1 else v_bd (m_D w) cnt))) h n) := by
  have hm := hM.1
  have hw := hM.2
  have hc := ok.1
  have h14 := ok.2.1
  have hcp := ok.2.2.1
  have h100 := ok.2.2.2.1
  have loop : ∀ (d q M : Nat) (s r : Int32), q + d = (g_srt (m_D w) cnt).2 → m_sn (m_D w) cnt q M → v_bd (m_D w) cnt = (g_bd (m_D w) (g_srt (m_D w) cnt).1 d q s r) → ¬ d_room (m_D w) cnt < 0 → s_G TX9_bound (s_re (some (.int (if d_room (m_D w) cnt < 0 then -1 else v_bd (m_D w) cnt))) h n) 36 (s_lvs [(0, .ref m), (1, .int r), (2, .int s), (3, .int (nI M)), (4, .int (m_nx (m_D w) cnt q))]) [] h n 0 0 := by
    intro d
    induction d with
    | zero =>
      intro q M s r hd hs hv hneg
      refine g_iload dX9_bound_36 (by rfl) ?_
      refine g_iconst (-1) dX9_bound_38 (by rfl) ?_
      refine g_icmp_eq (tgt := 89) dX9_bound_39 (by decide) (fun _ => ?_) (fun c_39 => absurd (m_nx_n (by omega)) c_39)
      refine g_iload dX9_bound_89 (by rfl) ?_
      rw [m_nx_n (by omega)]
      refine g_iconst (-1) dX9_bound_91 (by rfl) ?_
      refine g_icmp_ne (tgt := 99) dX9_bound_92 (by decide) (fun c_92 => absurd rfl c_92) (fun _ => ?_)
      refine g_iload_n dX9_bound_95 rfl (by rfl) ?_
      refine g_goto (tgt := 117) dX9_bound_96 (by decide) ?_
      refine g_ireturn dX9_bound_117 rfl ?_
      exact ⟨by rw [if_neg hneg, hv]; rfl, rfl, rfl⟩
    | succ d ih =>
      intro q M s r hd hs hv hneg
      have ih := fun q M s r h1 h2 h3 => ih q M s r h1 h2 h3 hneg
      have hq : q < (g_srt (m_D w) cnt).2 := by omega
      have ho := m_o ok hq
      obtain ⟨ho1, ho2, ho3, -, -⟩ := k_it ok ho
      have hpos : 0 < (m_D w).1 0 ((g_srt (m_D w) cnt).1 q) := by rw [ho1]; exact nI_lt (a := 0) (by omega) (by omega)
      refine g_iload dX9_bound_36 (by rfl) ?_
      rw [m_nx_y hq]
      refine g_iconst (-1) dX9_bound_38 (by rfl) ?_
      refine g_icmp_eq (tgt := 89) dX9_bound_39 (by decide) (fun c_39 => absurd c_39 (nI_m1 (by omega))) (fun _ => ?_)
      refine g_aload_n dX9_bound_42 rfl (by rfl) ?_
      refine g_iload dX9_bound_43 (by rfl) ?_
      refine g_iconst (nI 0) dX9_bound_45 (by rfl) ?_
      refine g_callV_e (c_X9_of hM hn ((g_srt (m_D w) cnt).1 q) 0 (by omega)) dX9_bound_46 (mX9_of) rfl lX9_73 iX9_of vX9_of (by decide) (by omega) (by exact hm) rfl rfl rfl rfl (Nat.le_of_ble_eq_true rfl) ?_
      refine g_iload_n dX9_bound_49 rfl (by rfl) ?_
      refine g_icmp_gt (tgt := 89) dX9_bound_50 (by decide) (fun c_50 => ?_) (fun c_50 => ?_)
      · have e : (g_bd (m_D w) (g_srt (m_D w) cnt).1 (d + 1) q s r) = s + d_wt (m_D w) ((g_srt (m_D w) cnt).1 q) * r / (m_D w).1 0 ((g_srt (m_D w) cnt).1 q) := if_pos ⟨c_50, hpos⟩
        refine g_iload dX9_bound_89 (by rfl) ?_
        refine g_iconst (-1) dX9_bound_91 (by rfl) ?_
        refine g_icmp_ne (tgt := 99) dX9_bound_92 (by decide) (fun _ => ?_) (fun c_92 => absurd c_92 (nI_m1 (by omega)))
        refine g_iload_n dX9_bound_99 rfl (by rfl) ?_
        refine g_aload_n dX9_bound_100 rfl (by rfl) ?_
        refine g_iload dX9_bound_101 (by rfl) ?_
        refine g_callV_e (c_X9_weightOf hM hn ((g_srt (m_D w) cnt).1 q) (by omega)) dX9_bound_103 (mX9_weightOf) rfl lX9_83 iX9_weightOf vX9_weightOf (by decide) (by omega) (by exact hm) rfl rfl rfl rfl (Nat.le_of_ble_eq_true rfl) ?_
        refine g_iload_n dX9_bound_106 rfl (by rfl) ?_
        refine g_imul dX9_bound_107 ?_
        refine g_aload_n dX9_bound_108 rfl (by rfl) ?_
        refine g_iload dX9_bound_109 (by rfl) ?_
        refine g_iconst (nI 0) dX9_bound_111 (by rfl) ?_
        refine g_callV_e (c_X9_of hM hn ((g_srt (m_D w) cnt).1 q) 0 (by omega)) dX9_bound_112 (mX9_of) rfl lX9_73 iX9_of vX9_of (by decide) (by omega) (by exact hm) rfl rfl rfl rfl (Nat.le_of_ble_eq_true rfl) ?_
        refine g_idiv dX9_bound_115 (fun z => by rw [show (m_D w).1 0 ((g_srt (m_D w) cnt).1 q) = nI (k_s (m_D w) ((g_srt (m_D w) cnt).1 q)) from ho1] at z; have := nI_inj (a := k_s (m_D w) ((g_srt (m_D w) cnt).1 q)) (b := 0) (by omega) (by omega) z; omega) ?_
        refine g_iadd dX9_bound_116 ?_
        refine g_ireturn dX9_bound_117 rfl ?_
        exact ⟨by rw [if_neg hneg, hv, e], rfl, rfl⟩
      · have e : (g_bd (m_D w) (g_srt (m_D w) cnt).1 (d + 1) q s r) = (g_bd (m_D w) (g_srt (m_D w) cnt).1 d (q + 1) (s + d_wt (m_D w) ((g_srt (m_D w) cnt).1 q)) (r - (m_D w).1 0 ((g_srt (m_D w) cnt).1 q))) := if_neg (fun z => c_50 z.1)
        refine g_iload_n dX9_bound_53 rfl (by rfl) ?_
        refine g_aload_n dX9_bound_54 rfl (by rfl) ?_
        refine g_iload dX9_bound_55 (by rfl) ?_
        refine g_callV_e (c_X9_weightOf hM hn ((g_srt (m_D w) cnt).1 q) (by omega)) dX9_bound_57 (mX9_weightOf) rfl lX9_83 iX9_weightOf vX9_weightOf (by decide) (by omega) (by exact hm) rfl rfl rfl rfl (Nat.le_of_ble_eq_true rfl) ?_
        refine g_iadd dX9_bound_60 ?_
        refine g_istore_n dX9_bound_61 rfl (by decide) ?_
        refine g_iload_n dX9_bound_62 rfl (by rfl) ?_
        refine g_aload_n dX9_bound_63 rfl (by rfl) ?_
        refine g_iload dX9_bound_64 (by rfl) ?_
        refine g_iconst (nI 0) dX9_bound_66 (by rfl) ?_
        refine g_callV_e (c_X9_of hM hn ((g_srt (m_D w) cnt).1 q) 0 (by omega)) dX9_bound_67 (mX9_of) rfl lX9_73 iX9_of vX9_of (by decide) (by omega) (by exact hm) rfl rfl rfl rfl (Nat.le_of_ble_eq_true rfl) ?_
        refine g_isub dX9_bound_70 ?_
        refine g_istore_n dX9_bound_71 rfl (by decide) ?_
        refine g_iload_n dX9_bound_72 rfl (by rfl) ?_
        refine g_iconst 1 dX9_bound_73 (by rfl) ?_
        refine g_iload dX9_bound_74 (by rfl) ?_
        refine g_ishl dX9_bound_76 ?_
        refine g_ior dX9_bound_77 ?_
        rw [b_sh _ (by omega), nI_or]
        refine g_istore_n dX9_bound_78 rfl (by decide) ?_
        have hs := m_sn_s h14 hs ho
        refine g_aload_n dX9_bound_79 rfl (by rfl) ?_
        refine g_iload_n dX9_bound_80 rfl (by rfl) ?_
        refine g_callV_e (c_X9_densestWithout hM hn ok hs.1) dX9_bound_81 (mX9_densestWithout) rfl lX9_120 iX9_densestWithout vX9_densestWithout (by decide) (by omega) (by exact hm) rfl rfl rfl rfl (Nat.le_of_ble_eq_true rfl) ?_
        rw [m_sel ok hs (by omega)]
        refine g_istore dX9_bound_84 (by decide) ?_
        refine g_goto (tgt := 36) dX9_bound_86 (by decide) ?_
        exact g_lv (ih (q + 1) _ _ _ (by omega) hs (by rw [hv, e])) ⟨rfl, rfl, rfl, rfl, rfl, trivial⟩
  refine s_Mt_of rfl (by decide) (by exact Nat.le_of_ble_eq_true rfl) ?_
  refine g_aload_n dX9_bound_0 rfl (by rfl) ?_
  refine g_aload_n dX9_bound_1 rfl (by rfl) ?_
  refine g_getf dX9_bound_2 fX9_9 (by exact hm) (by omega) (by rfl) ?_
  refine g_iconst 0 dX9_bound_5 (by rfl) ?_
  refine g_iald dX9_bound_6 (by exact hw) (by omega) (show (0 : Int32) = nI 0 from rfl) (by decide) (by omega) ?_
  refine g_callV_e (c_X9_roomFor hM hn hc h14 (w 0)) dX9_bound_7 (mX9_roomFor) rfl lX9_99 iX9_roomFor vX9_roomFor (by decide) (by omega) (by exact hm) rfl rfl rfl rfl (Nat.le_of_ble_eq_true rfl) ?_
  change s_G _ _ _ _ [.int (d_room (m_D w) cnt)] _ _ _ _
  refine g_istore_n dX9_bound_10 rfl (by decide) ?_
  refine g_iload_n dX9_bound_11 rfl (by rfl) ?_
  refine g_if_ge (tgt := 17) dX9_bound_12 (by decide) (fun c_12 => ?_) (fun c_12 => ?_)
  · have hneg : ¬ d_room (m_D w) cnt < 0 := Int32.not_lt.mpr c_12
    refine g_aload_n dX9_bound_17 rfl (by rfl) ?_
    refine g_aload_n dX9_bound_18 rfl (by rfl) ?_
    refine g_iconst 1 dX9_bound_19 (by rfl) ?_
    refine g_callV_e (c_X9_inState hM hn hc h14 1) dX9_bound_20 (mX9_inState) rfl lX9_93 iX9_inState vX9_inState (by decide) (by omega) (by exact hm) rfl rfl rfl rfl (Nat.le_of_ble_eq_true rfl) ?_
    refine g_callV_e (c_X9_weightOfSet hM hn hc h14 _) dX9_bound_23 (mX9_weightOfSet) rfl lX9_111 iX9_weightOfSet vX9_weightOfSet (by decide) (by omega) (by exact hm) rfl rfl rfl rfl (Nat.le_of_ble_eq_true rfl) ?_
    refine g_istore_n dX9_bound_26 rfl (by decide) ?_
    refine g_iconst 0 dX9_bound_27 (by rfl) ?_
    refine g_istore_n dX9_bound_28 rfl (by decide) ?_
    refine g_aload_n dX9_bound_29 rfl (by rfl) ?_
    refine g_iload_n dX9_bound_30 rfl (by rfl) ?_
    refine g_callV_e (c_X9_densestWithout hM hn ok (M := 0) (by omega)) dX9_bound_31 (mX9_densestWithout) rfl lX9_120 iX9_densestWithout vX9_densestWithout (by decide) (by omega) (by exact hm) rfl rfl rfl rfl (Nat.le_of_ble_eq_true rfl) ?_
    rw [m_sel ok m_sn0 (Nat.zero_le _)]
    refine g_istore dX9_bound_34 (by decide) ?_
    exact g_lv (loop (g_srt (m_D w) cnt).2 0 0 _ _ (by omega) m_sn0 rfl hneg) ⟨rfl, rfl, rfl, rfl, rfl, trivial⟩
  · have hneg : d_room (m_D w) cnt < 0 := Int32.not_le.mp c_12
    refine g_iconst (-1) dX9_bound_15 (by rfl) ?_
    refine g_ireturn dX9_bound_16 rfl ?_
    exact ⟨by rw [if_pos hneg], rfl, rfl⟩

theorem c_X9_greedyWeightNow {h : s_H} {n m : Nat} {I w : Nat → Int32} (hM : m_at h m I w) (hn : m + 21 ≤ n) {cnt cp : Nat} (ok : d_ok (m_D w) cnt cp) : s_Mt TX9_greedyWeightNow 0 0 [.ref m] h n (s_re (some (.int (if d_room (m_D w) cnt < 0 then -1 else d_tot (d_wt (m_D w)) (v_gp (m_D w) cnt) cnt))) h n) := by
  have hm := hM.1
  have hw := hM.2
  have hc := ok.1
  have h14 := ok.2.1
  have hcp := ok.2.2.1
  have h100 := ok.2.2.2.1
  refine s_Mt_of rfl (by decide) (by exact Nat.le_of_ble_eq_true rfl) ?_
  refine g_aload_n dX9_greedyWeightNow_0 rfl (by rfl) ?_
  refine g_callV_e (c_X9_greedy hM hn ok) dX9_greedyWeightNow_1 (mX9_greedy) rfl lX9_296 iX9_greedy vX9_greedy (by decide) (by omega) (by exact hm) rfl rfl rfl rfl (Nat.le_of_ble_eq_true rfl) ?_
  refine g_istore_n dX9_greedyWeightNow_4 rfl (by decide) ?_
  refine g_iload_n dX9_greedyWeightNow_5 rfl (by rfl) ?_
  refine g_iconst (-1) dX9_greedyWeightNow_6 (by rfl) ?_
  refine g_icmp_ne (tgt := 14) dX9_greedyWeightNow_7 (by decide) (fun c_7 => ?_) (fun c_7 => ?_)
  · have hneg : ¬ d_room (m_D w) cnt < 0 := fun z => c_7 (by rw [if_pos z])
    refine g_aload_n dX9_greedyWeightNow_14 rfl (by rfl) ?_
    refine g_iload_n dX9_greedyWeightNow_15 rfl (by rfl) ?_
    refine g_callV_e (c_X9_weightOfSet hM hn hc h14 _) dX9_greedyWeightNow_16 (mX9_weightOfSet) rfl lX9_111 iX9_weightOfSet vX9_weightOfSet (by decide) (by omega) (by exact hm) rfl rfl rfl rfl (Nat.le_of_ble_eq_true rfl) ?_
    refine g_ireturn dX9_greedyWeightNow_19 rfl ?_
    first | exact ⟨by rw [if_pos hneg], rfl, rfl⟩ | exact ⟨by rw [if_neg hneg, if_neg hneg], rfl, rfl⟩
  · have hneg : d_room (m_D w) cnt < 0 := Classical.byContradiction fun z => v_gp_m1 ok (by rw [if_neg z] at c_7; exact c_7)
    refine g_iconst (-1) dX9_greedyWeightNow_10 (by rfl) ?_
    refine g_goto (tgt := 19) dX9_greedyWeightNow_11 (by decide) ?_
    refine g_ireturn dX9_greedyWeightNow_19 rfl ?_
    first | exact ⟨by rw [if_pos hneg], rfl, rfl⟩ | exact ⟨by rw [if_neg hneg, if_neg hneg], rfl, rfl⟩
