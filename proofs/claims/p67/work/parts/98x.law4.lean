/-! THE LAW: isAlike, act (written by wip/p67/law4.py) -/
theorem i_lc (x : Int64) : lg_cmp x x = 0 := by
  unfold lg_cmp
  simp
theorem hp_one {D : Nat → s_D} {l : Nat} {σ : s_D} : ∃ υ, hp_D D l σ (hp_l l) = d_cpy σ υ := ⟨_, if_pos rfl⟩
theorem hp_lt (l : Nat) (h : l ≤ 10) : hp_l l < 10 := by
  unfold hp_l
  split <;> omega
/-- what was remembered before the last -/
theorem hp_two {D : Nat → s_D} {l : Nat} {σ τ : s_D} (h : l ≤ 10) : ∃ m, hp_l (hp_l l + 1) = m + 1 ∧ m < 10 ∧ ∃ υ, hp_D (hp_D D l σ) (hp_l l + 1) τ m = d_cpy σ υ := by
  by_cases e : l < 9
  · have e1 : hp_l l = l := if_pos (by omega)
    have e2 : hp_l (l + 1) = l + 1 := if_pos (by omega)
    refine ⟨l, by rw [e1, e2], by omega, ?_⟩
    obtain ⟨υ, hυ⟩ := hp_one (D := D) (l := l) (σ := σ)
    refine ⟨υ, ?_⟩
    rw [e1]
    unfold hp_D hp_D0
    rw [e2, if_neg (by omega), if_pos (by omega)]
    rw [e1] at hυ
    exact hυ
  · have e1 : hp_l l = 9 := by
      unfold hp_l
      split <;> omega
    have e2 : hp_l (9 + 1) = 9 := if_neg (by omega)
    refine ⟨8, by rw [e1, e2], by omega, ?_⟩
    obtain ⟨υ, hυ⟩ := hp_one (D := D) (l := l) (σ := σ)
    refine ⟨υ, ?_⟩
    rw [e1] at hυ ⊢
    show (if 8 = hp_l (9 + 1) then _ else hp_D0 (hp_D D l σ) (9 + 1) 8) = _
    rw [e2, if_neg (by omega)]
    exact hυ
theorem c_L_isAlike {h : s_H} {n b : Nat} {π : s_Pl} (hP : s_pl h b π) (hn : b + 93 ≤ n) {cnt cp L a c : Nat} (ok : d_ok π.1 cnt cp) (hl : π.2.2.2.2.1 ≤ 10) (hL : π.2.2.2.2.2.2.1 = L) (ha : 1 ≤ a) (hc : 1 ≤ c) (hac : a + c ≤ 50) : s_Mt TL_isAlike 59 354 [.ref b, .int (nI a), .int (nI c)] h n (s_rp n (fun r h1 => r = some (.int 1) ∧ w_In h1 b L) s_no) := by
  have h14 := ok.2.1
  obtain ⟨σ, σs, sv, D, l, πr⟩ := π
  replace hl : l ≤ 10 := hl
  replace ok : d_ok σ cnt cp := ok
  have ok1 := v_bn_ok ok a
  have ok2 := v_bn_ok ok1 c
  obtain ⟨m, hm1, hm2, υ, hυ⟩ := hp_two (D := D) (l := l) (σ := σ) (τ := v_bn σ cnt cp a) hl
  let σ4 : s_D := d_cpy ((hp_D (hp_D D l σ) (hp_l l + 1) (v_bn σ cnt cp a)) m) (d_cpy ((hp_D (hp_D D l σ) (hp_l l + 1) (v_bn σ cnt cp a)) (m + 1)) (v_bn (v_bn σ cnt cp a) cnt cp c))
  have q4 : d_eq cnt σ4 σ := by
    show d_eq cnt (d_cpy ((hp_D (hp_D D l σ) (hp_l l + 1) (v_bn σ cnt cp a)) m) _) σ
    rw [hυ]
    exact (d_eq.cpy h14 _ _).tr (d_eq.cpy h14 _ _)
  have ok4 : d_ok σ4 cnt cp := q4.sy.ok ok
  have ok5 := v_bn_ok ok4 (a + c)
  obtain ⟨y, hy, hy2⟩ := f_tkn ok4 (a + c)
  have es5 : x_sn (v_bn σ4 cnt cp (a + c)) cnt = x_sn (v_bn (v_bn σ cnt cp a) cnt cp c) cnt := by
    rw [(q4.bn (cp := cp) (a + c)).sn cnt (Nat.le_refl _), f_bn]
  let σ6 : s_D := d_cpy (hp_D (hp_D (hp_D D l σ) (hp_l l + 1) (v_bn σ cnt cp a)) m σ4 (hp_l m)) (v_bn σ4 cnt cp (a + c))
  have q6 : d_eq cnt σ6 σ := by
    obtain ⟨υ6, h6⟩ := hp_one (D := (hp_D (hp_D D l σ) (hp_l l + 1) (v_bn σ cnt cp a))) (l := m) (σ := σ4)
    show d_eq cnt (d_cpy (hp_D (hp_D (hp_D D l σ) (hp_l l + 1) (v_bn σ cnt cp a)) m σ4 (hp_l m)) _) σ
    rw [h6]
    exact ((d_eq.cpy h14 _ _).tr (d_eq.cpy h14 _ _)).tr q4
  have ok6 : d_ok σ6 cnt cp := q6.sy.ok ok
  have es6 : x_sn σ6 cnt = x_sn σ cnt := q6.sn cnt (Nat.le_refl _)
  have hb := hP.1
  unfold s_po at hb
  refine s_Mt_of rfl (by decide) (by exact Nat.le_of_ble_eq_true rfl) ?_
  refine g_aload_n dL_isAlike_0 rfl (by rfl) ?_
  refine g_callS (rest := []) (c_L_seen hP hn ok) dL_isAlike_1 mL_seen rfl lL_262 sL_seen (by decide) rfl rfl (Nat.le_of_ble_eq_true rfl) (by omega) (by omega) s_re.same (fun v9 h9 z9 => ?_) (fun E h' z => by cases z.1)
  obtain ⟨z1, z2, -⟩ := z9
  obtain rfl := z2.symm
  cases z1
  refine g_lstore_n dL_isAlike_4 rfl (by decide) ?_
  refine g_lv (l := [(0, .ref b), (1, .int (nI a)), (2, .int (nI c)), (3, .long (x_sn σ cnt))]) ?_ ⟨by rfl, by rfl, by rfl, by rfl, trivial⟩
  refine g_aload_n dL_isAlike_5 rfl (by rfl) ?_
  refine g_iload_n dL_isAlike_6 rfl (by rfl) ?_
  refine g_callSH (rest := []) (c_L_runBackups hP hn ok hl (k := a) (by omega) (by omega)) dL_isAlike_7 mL_runBackups rfl lL_176 sL_runBackups (by decide) rfl rfl (Nat.le_of_ble_eq_true rfl) (by omega) (by omega) s_rp.same (fun E h' z => z.2) (fun v9 h9 z9 => ?_)
  obtain ⟨-, z1, hP, -⟩ := z9
  cases z1
  replace hP : s_pl h9 b (v_bn σ cnt cp a, σs, sv, hp_D D l σ, hp_l l + 1, πr) := hP
  have hb := hP.1
  unfold s_po at hb
  refine g_pop dL_isAlike_10 (by rfl) ?_
  refine g_aload_n dL_isAlike_11 rfl (by rfl) ?_
  refine g_iload_n dL_isAlike_12 rfl (by rfl) ?_
  refine g_callSH (rest := []) (c_L_runBackups hP hn (π := (v_bn σ cnt cp a, σs, sv, hp_D D l σ, hp_l l + 1, πr)) ok1 (hp_le l hl) (k := c) (by omega) (by omega)) dL_isAlike_13 mL_runBackups rfl lL_176 sL_runBackups (by decide) rfl rfl (Nat.le_of_ble_eq_true rfl) (by omega) (by omega) s_rp.same (fun E h' z => z.2) (fun v9 h9 z9 => ?_)
  obtain ⟨-, z1, hP, -⟩ := z9
  cases z1
  replace hP : s_pl h9 b (v_bn (v_bn σ cnt cp a) cnt cp c, σs, sv, (hp_D (hp_D D l σ) (hp_l l + 1) (v_bn σ cnt cp a)), hp_l (hp_l l + 1) + 1, πr) := hP
  have hb := hP.1
  unfold s_po at hb
  refine g_pop dL_isAlike_16 (by rfl) ?_
  refine g_aload_n dL_isAlike_17 rfl (by rfl) ?_
  refine g_callS (rest := []) (c_L_seen hP hn (π := (v_bn (v_bn σ cnt cp a) cnt cp c, σs, sv, (hp_D (hp_D D l σ) (hp_l l + 1) (v_bn σ cnt cp a)), hp_l (hp_l l + 1) + 1, πr)) ok2) dL_isAlike_18 mL_seen rfl lL_262 sL_seen (by decide) rfl rfl (Nat.le_of_ble_eq_true rfl) (by omega) (by omega) s_re.same (fun v9 h9 z9 => ?_) (fun E h' z => by cases z.1)
  obtain ⟨z1, z2, -⟩ := z9
  obtain rfl := z2.symm
  cases z1
  refine g_lstore dL_isAlike_21 (by decide) ?_
  refine g_lv (l := [(0, .ref b), (1, .int (nI a)), (2, .int (nI c)), (3, .long (x_sn σ cnt)), (5, .long (x_sn (v_bn (v_bn σ cnt cp a) cnt cp c) cnt))]) ?_ ⟨by rfl, by rfl, by rfl, by rfl, by rfl, trivial⟩
  refine g_aload_n dL_isAlike_23 rfl (by rfl) ?_
  refine g_callV_p (c_X8_undo hP hn (hp_lt _ (hp_le l hl))) dL_isAlike_24 (mX8_undo) rfl lL_266 iX8_undo vX8_undo (by decide) (by omega) (by exact hb) rfl rfl rfl rfl (Nat.le_of_ble_eq_true rfl) (fun v9 h9 z9 => ?_)
  obtain ⟨rfl, hP, -⟩ := z9
  rw [hm1] at hP
  have hb := hP.1
  unfold s_po at hb
  refine g_pop dL_isAlike_27 (by rfl) ?_
  refine g_aload_n dL_isAlike_28 rfl (by rfl) ?_
  refine g_callV_p (c_X8_undo hP hn hm2) dL_isAlike_29 (mX8_undo) rfl lL_266 iX8_undo vX8_undo (by decide) (by omega) (by exact hb) rfl rfl rfl rfl (Nat.le_of_ble_eq_true rfl) (fun v9 h9 z9 => ?_)
  obtain ⟨rfl, hP, -⟩ := z9
  replace hP : s_pl h9 b (σ4, σs, sv, (hp_D (hp_D D l σ) (hp_l l + 1) (v_bn σ cnt cp a)), m, πr) := hP
  have hb := hP.1
  unfold s_po at hb
  refine g_pop dL_isAlike_32 (by rfl) ?_
  refine g_aload_n dL_isAlike_33 rfl (by rfl) ?_
  refine g_iload_n dL_isAlike_34 rfl (by rfl) ?_
  refine g_iload_n dL_isAlike_35 rfl (by rfl) ?_
  refine g_iadd dL_isAlike_36 ?_
  rw [nI_add']
  refine g_callSH (rest := []) (c_L_runBackups hP hn (π := (σ4, σs, sv, (hp_D (hp_D D l σ) (hp_l l + 1) (v_bn σ cnt cp a)), m, πr)) ok4 (Nat.le_of_lt hm2) (k := a + c) (by omega) (by omega)) dL_isAlike_37 mL_runBackups rfl lL_176 sL_runBackups (by decide) rfl rfl (Nat.le_of_ble_eq_true rfl) (by omega) (by omega) s_rp.same (fun E h' z => z.2) (fun v9 h9 z9 => ?_)
  obtain ⟨-, z1, hP, -⟩ := z9
  cases z1
  replace hP : s_pl h9 b (v_bn σ4 cnt cp (a + c), σs, sv, hp_D (hp_D (hp_D D l σ) (hp_l l + 1) (v_bn σ cnt cp a)) m σ4, hp_l m + 1, πr) := hP
  have hb := hP.1
  unfold s_po at hb
  rw [hy]
  refine g_istore dL_isAlike_40 (by decide) ?_
  refine g_lv (l := [(0, .ref b), (1, .int (nI a)), (2, .int (nI c)), (3, .long (x_sn σ cnt)), (5, .long (x_sn (v_bn (v_bn σ cnt cp a) cnt cp c) cnt)), (7, .int (nI y))]) ?_ ⟨by rfl, by rfl, by rfl, by rfl, by rfl, by rfl, trivial⟩
  refine g_aload_n dL_isAlike_42 rfl (by rfl) ?_
  refine g_callS (rest := []) (c_L_seen hP hn (π := (v_bn σ4 cnt cp (a + c), σs, sv, hp_D (hp_D (hp_D D l σ) (hp_l l + 1) (v_bn σ cnt cp a)) m σ4, hp_l m + 1, πr)) ok5) dL_isAlike_43 mL_seen rfl lL_262 sL_seen (by decide) rfl rfl (Nat.le_of_ble_eq_true rfl) (by omega) (by omega) s_re.same (fun v9 h9 z9 => ?_) (fun E h' z => by cases z.1)
  obtain ⟨z1, z2, -⟩ := z9
  obtain rfl := z2.symm
  cases z1
  refine g_lload dL_isAlike_46 (by rfl) ?_
  rw [es5]
  refine g_lcmp dL_isAlike_48 ?_
  rw [i_lc]
  refine g_if_ne (tgt := 70) dL_isAlike_49 (by decide) (fun c_49 => absurd rfl c_49) (fun _ => ?_)
  refine g_iload dL_isAlike_52 (by rfl) ?_
  refine g_if_lt (tgt := 70) dL_isAlike_54 (by decide) (fun c_54 => absurd c_54 (nI_pos (by omega))) (fun _ => ?_)
  refine g_iload dL_isAlike_57 (by rfl) ?_
  refine g_aload_n dL_isAlike_59 rfl (by rfl) ?_
  refine g_callV_e (c_X8_itemCount hP hn) dL_isAlike_60 (mX8_itemCount) rfl lL_149 iX8_itemCount vX8_itemCount (by decide) (by omega) (by exact hb) rfl rfl rfl rfl (Nat.le_of_ble_eq_true rfl) ?_
  rw [ok5.1]
  refine g_icmp_gt (tgt := 70) dL_isAlike_63 (by decide) (fun c_63 => absurd c_63 (i_nlt hy2 (by omega))) (fun _ => ?_)
  refine g_iconst 1 dL_isAlike_66 (by rfl) ?_
  refine g_goto (tgt := 71) dL_isAlike_67 (by decide) ?_
  refine g_istore dL_isAlike_71 (by decide) ?_
  refine g_aload_n dL_isAlike_73 rfl (by rfl) ?_
  refine g_callV_p (c_X8_undo hP hn (hp_lt _ (Nat.le_of_lt hm2))) dL_isAlike_74 (mX8_undo) rfl lL_266 iX8_undo vX8_undo (by decide) (by omega) (by exact hb) rfl rfl rfl rfl (Nat.le_of_ble_eq_true rfl) (fun v9 h9 z9 => ?_)
  obtain ⟨rfl, hP, -⟩ := z9
  replace hP : s_pl h9 b (σ6, σs, sv, hp_D (hp_D (hp_D D l σ) (hp_l l + 1) (v_bn σ cnt cp a)) m σ4, hp_l m, πr) := hP
  have hb := hP.1
  unfold s_po at hb
  refine g_pop dL_isAlike_77 (by rfl) ?_
  refine g_iload dL_isAlike_78 (by rfl) ?_
  refine g_if_eq (tgt := 96) dL_isAlike_80 (by decide) (fun c_80 => absurd c_80 (by decide)) (fun _ => ?_)
  refine g_aload_n dL_isAlike_83 rfl (by rfl) ?_
  refine g_callS (rest := []) (c_L_seen hP hn (π := (σ6, σs, sv, hp_D (hp_D (hp_D D l σ) (hp_l l + 1) (v_bn σ cnt cp a)) m σ4, hp_l m, πr)) ok6) dL_isAlike_84 mL_seen rfl lL_262 sL_seen (by decide) rfl rfl (Nat.le_of_ble_eq_true rfl) (by omega) (by omega) s_re.same (fun v9 h9 z9 => ?_) (fun E h' z => by cases z.1)
  obtain ⟨z1, z2, -⟩ := z9
  obtain rfl := z2.symm
  cases z1
  refine g_lload_n dL_isAlike_87 rfl (by rfl) ?_
  rw [es6]
  refine g_lcmp dL_isAlike_88 ?_
  rw [i_lc]
  refine g_if_ne (tgt := 96) dL_isAlike_89 (by decide) (fun c_89 => absurd rfl c_89) (fun _ => ?_)
  refine g_iconst 1 dL_isAlike_92 (by rfl) ?_
  refine g_goto (tgt := 97) dL_isAlike_93 (by decide) ?_
  refine g_zreturn dL_isAlike_97 rfl (by decide) ?_
  exact ⟨rfl, rfl, _, cnt, cp, hP, ok6, Nat.le_of_lt (hp_lt _ (Nat.le_of_lt hm2)), hL⟩
