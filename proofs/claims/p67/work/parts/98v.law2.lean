/-! THE LAW: sums, what grows, what is seen (written by wip/p67/law2.py) -/
theorem g_callSH {T : s_T} {Φ : s_P} {pc : Nat} {lv : s_V} {st : List Value} {h : s_H} {n kc ks : Nat} {T' : s_T} {as rest : List Value} {mc' ms' idx na : Nat} {Ψ : s_P} {x9 : Nat × Nat × Nat × Nat} {xs9 : List (Nat × Nat × Nat × Nat)} (M : s_Mt T' mc' ms' as h n Ψ) (hd : decode T.2.1 pc = .ok (.invokestatic idx, 3)) (cm : s_cm T' na) (hh : T'.2.2.2.2.1 = x9 :: xs9) (hl : Cond.methodLink T.1.cls idx T'.1 ∈ s_WL) (hs : Cond.static T'.1 ∈ s_WL) (hdep : T'.2.2.2.2.2 + 1 ≤ T.2.2.2.2.2) (hst : st = as.reverse ++ rest) (hna : as.length = na) (hc : (rest.map fun v => v.category).sum ≤ 8) (hmc : mc' ≤ kc) (hms : ms' ≤ ks) (hsame : ∀ o h' n', Ψ o h' n' → n' = n) (hx : ∀ E h', ¬ Ψ (.inr E) h' n)
    (kk : ∀ v h', Ψ (.inl v) h' n → s_G T Φ (pc + 3) lv (v.toList ++ rest) h' n (kc - mc') (ks - ms')) : s_G T Φ pc lv st h n kc ks := by
  refine g_call (rest := rest) hmc hms hsame ?_ (fun v h' q => kk v h' q) (fun E h' q => absurd q (hx E h'))
  intro p l e R s m args below meth c X ad0 n0 A mc ms Qm C ad H locs cells slots ls S
  have hM := M l C.2.2.2.2.2.2.2.2.1 X ad H.size
  have hR := s_room (mc' := mc') (ms' := ms') C.2.2.2.2.2.2.2.2.2.2.2.2.2.1 hdep cm.2.2.1
  have hhd : s_hd T' = Cond.codeWith T'.1 T'.2.1 T'.2.2.1 T'.2.2.2.1 (x9 :: xs9) := by simp only [s_hd, hh]
  exact ⟨_, vx_runSX ⟨C.1, C.2.1, C.2.2.1, C.2.2.2.2.1, C.2.2.2.2.2.1⟩ hM (vx_cwSW (bytes := T'.2.1) (maxL := T'.2.2.1) (ret := T'.2.2.2.1) (ws' := s_WL) na C.2.2.2.2.2.1 (s_good (s_inS cm hl hs)) (by rw [hhd]) rfl rfl cm.2.1 hR) (s_pre C S as) rfl (by rw [List.length_map]; exact hna) S.2.2.2.2.2.2.2.2.1 (by rw [hst]; simp) (lv_room (s_cats hc)) hd ⟨Nat.le_trans (Nat.add_le_add_left hmc _) (Nat.le_trans S.2.2.2.2.2.2.1 C.2.2.2.2.2.2.2.2.2.2.2.2.2.1.2.2.1), Nat.le_trans (Nat.add_le_add_left hms _) (Nat.le_trans S.2.2.2.2.2.2.2.1 C.2.2.2.2.2.2.2.2.2.2.2.2.2.1.2.2.2)⟩⟩
theorem i_b1 (x : Int32) : x &&& 1 = 0 ∨ x &&& 1 = 1 := by
  have h : (x &&& 1).toBitVec.toNat ≤ 1 := by
    rw [Int32.toBitVec_and, BitVec.toNat_and]
    exact Nat.and_le_right
  rcases Nat.le_one_iff_eq_zero_or_eq_one.mp h with z | z
  · left
    apply Int32.toBitVec_inj.mp
    apply BitVec.eq_of_toNat_eq
    rw [z]
    rfl
  · right
    apply Int32.toBitVec_inj.mp
    apply BitVec.eq_of_toNat_eq
    rw [z]
    rfl
theorem i_ge {a b : Nat} (h : a ≤ b) (hb : b < 2147483648) : nI a ≤ nI b := by
  rw [Int32.le_iff_toInt_le, nI_ti (a := a) (by omega), nI_ti hb]
  omega
theorem i_nlt {a b : Nat} (h : a ≤ b) (hb : b < 2147483648) : ¬ nI b < nI a := by
  rw [Int32.lt_iff_toInt_lt, nI_ti (a := a) (by omega), nI_ti hb]
  omega
theorem i_nge {a b : Nat} (h : a < b) (hb : b < 2147483648) : ¬ nI b ≤ nI a := by
  rw [Int32.le_iff_toInt_le, nI_ti (a := a) (by omega), nI_ti hb]
  omega

theorem c_L_sizeOf {h : s_H} {n b : Nat} {π : s_Pl} (hP : s_pl h b π) (hn : b + 93 ≤ n) {cnt cp : Nat} (ok : d_ok π.1 cnt cp) (set : Int32) : s_Mt TL_sizeOf 14 84 [.ref b, .int set] h n (s_re (some (.int (d_tot (π.1.1 0) set cnt))) h n) := by
  have hb := hP.1
  unfold s_po at hb
  have h14 := ok.2.1
  have loop : ∀ r i, i + r = cnt → s_G TL_sizeOf (s_re (some (.int (d_tot (π.1.1 0) set cnt))) h n) 4 (s_lvs [(0, .ref b), (1, .int set), (2, .int (d_tot (π.1.1 0) set (i))), (3, .int (nI (i)))]) [] h n r (6 * r) := by
    intro r
    induction r with
    | zero =>
      intro i hi
      obtain rfl : i = cnt := by omega
      refine g_iload_n dL_sizeOf_4 rfl (by rfl) ?_
      refine g_aload_n dL_sizeOf_5 rfl (by rfl) ?_
      refine g_callV_e (c_X8_itemCount hP hn) dL_sizeOf_6 (mX8_itemCount) rfl lL_149 iX8_itemCount vX8_itemCount (by decide) (by omega) (by exact hb) rfl rfl rfl rfl (Nat.le_of_ble_eq_true rfl) ?_
      rw [ok.1]
      refine g_icmp_ge (tgt := 39) dL_sizeOf_9 (by decide) (fun _ => ?_) (fun c_9 => absurd (i_ge (Nat.le_refl _) (by omega)) c_9)
      refine g_iload_n dL_sizeOf_39 rfl (by rfl) ?_
      refine g_ireturn dL_sizeOf_40 rfl ?_
      exact ⟨rfl, rfl, rfl⟩
    | succ r ih =>
      intro i hi
      refine g_iload_n dL_sizeOf_4 rfl (by rfl) ?_
      refine g_aload_n dL_sizeOf_5 rfl (by rfl) ?_
      refine g_callV_e (c_X8_itemCount hP hn) dL_sizeOf_6 (mX8_itemCount) rfl lL_149 iX8_itemCount vX8_itemCount (by decide) (by omega) (by exact hb) rfl rfl rfl rfl (Nat.le_of_ble_eq_true rfl) ?_
      rw [ok.1]
      refine g_icmp_ge (tgt := 39) dL_sizeOf_9 (by decide) (fun c_9 => absurd c_9 (i_nge (by omega) (by omega))) (fun _ => ?_)
      refine g_iload_n dL_sizeOf_12 rfl (by rfl) ?_
      refine g_iload_n dL_sizeOf_13 rfl (by rfl) ?_
      refine g_iload_n dL_sizeOf_14 rfl (by rfl) ?_
      refine g_ishr dL_sizeOf_15 ?_
      refine g_iconst 1 dL_sizeOf_16 (by rfl) ?_
      refine g_iand dL_sizeOf_17 ?_
      refine g_iconst 1 dL_sizeOf_18 (by rfl) ?_
      refine g_icmp_ne (tgt := 30) dL_sizeOf_19 (by decide) (fun c_19 => ?_) (fun c_19 => ?_)
      · refine g_iconst 0 dL_sizeOf_30 (by rfl) ?_
        refine g_iadd dL_sizeOf_31 ?_
        refine g_top (d_tot (π.1.1 0) set (i + 1)) (by
          first
          | (rcases i_b1 (set >>> (nI i &&& 31)) with zb | zb
             · rw [d_tot, if_pos zb, Int32.add_zero]
             · exact absurd zb c_19)
          | rw [d_tot, if_neg (fun z => absurd (c_19.symm.trans z) (by decide))]) ?_
        refine g_istore_n dL_sizeOf_32 rfl (by decide) ?_
        refine g_iinc (nI (i + 1)) dL_sizeOf_33 (by rfl) (nI_inc i) ?_
        refine g_goto (tgt := 4) dL_sizeOf_36 (by decide) ?_
        exact g_sub (g_lv (l := [(0, .ref b), (1, .int set), (2, .int (d_tot (π.1.1 0) set (i + 1))), (3, .int (nI (i + 1)))]) (ih (i + 1) (by omega)) ⟨by rfl, by rfl, by rfl, by rfl, trivial⟩) (fun _ _ z => z) (by omega) (by omega)
      · refine g_aload_n dL_sizeOf_22 rfl (by rfl) ?_
        refine g_iload_n dL_sizeOf_23 rfl (by rfl) ?_
        refine g_callSH (rest := [.int (d_tot (π.1.1 0) set i)]) (c_L_size hP hn ok (i := i) (by omega)) dL_sizeOf_24 mL_size rfl lL_181 sL_size (by decide) rfl rfl (Nat.le_of_ble_eq_true rfl) (by omega) (by omega) s_re.same (fun E h' z => by cases z.1) (fun v9 h9 z9 => ?_)
        obtain ⟨z1, z2, -⟩ := z9
        obtain rfl := z2.symm
        cases z1
        refine g_goto (tgt := 31) dL_sizeOf_27 (by decide) ?_
        refine g_iadd dL_sizeOf_31 ?_
        refine g_top (d_tot (π.1.1 0) set (i + 1)) (by
          first
          | (rcases i_b1 (set >>> (nI i &&& 31)) with zb | zb
             · rw [d_tot, if_pos zb, Int32.add_zero]
             · exact absurd zb c_19)
          | rw [d_tot, if_neg (fun z => absurd (c_19.symm.trans z) (by decide))]) ?_
        refine g_istore_n dL_sizeOf_32 rfl (by decide) ?_
        refine g_iinc (nI (i + 1)) dL_sizeOf_33 (by rfl) (nI_inc i) ?_
        refine g_goto (tgt := 4) dL_sizeOf_36 (by decide) ?_
        exact g_sub (g_lv (l := [(0, .ref b), (1, .int set), (2, .int (d_tot (π.1.1 0) set (i + 1))), (3, .int (nI (i + 1)))]) (ih (i + 1) (by omega)) ⟨by rfl, by rfl, by rfl, by rfl, trivial⟩) (fun _ _ z => z) (by omega) (by omega)
  refine s_Mt_of rfl (by decide) (by exact Nat.le_of_ble_eq_true rfl) ?_
  refine g_iconst 0 dL_sizeOf_0 (by rfl) ?_
  refine g_istore_n dL_sizeOf_1 rfl (by decide) ?_
  refine g_iconst 0 dL_sizeOf_2 (by rfl) ?_
  refine g_istore_n dL_sizeOf_3 rfl (by decide) ?_
  exact g_sub (g_lv (l := [(0, .ref b), (1, .int set), (2, .int (d_tot (π.1.1 0) set (0))), (3, .int (nI (0)))]) (loop cnt 0 (by omega)) ⟨by rfl, by rfl, by rfl, by rfl, trivial⟩) (fun _ _ z => z) (by omega) (by omega)
theorem c_L_weightOf {h : s_H} {n b : Nat} {π : s_Pl} (hP : s_pl h b π) (hn : b + 93 ≤ n) {cnt cp : Nat} (ok : d_ok π.1 cnt cp) (set : Int32) : s_Mt TL_weightOf 14 84 [.ref b, .int set] h n (s_re (some (.int (d_tot (d_wt π.1) set cnt))) h n) := by
  have hb := hP.1
  unfold s_po at hb
  have h14 := ok.2.1
  have loop : ∀ r i, i + r = cnt → s_G TL_weightOf (s_re (some (.int (d_tot (d_wt π.1) set cnt))) h n) 4 (s_lvs [(0, .ref b), (1, .int set), (2, .int (d_tot (d_wt π.1) set (i))), (3, .int (nI (i)))]) [] h n r (6 * r) := by
    intro r
    induction r with
    | zero =>
      intro i hi
      obtain rfl : i = cnt := by omega
      refine g_iload_n dL_weightOf_4 rfl (by rfl) ?_
      refine g_aload_n dL_weightOf_5 rfl (by rfl) ?_
      refine g_callV_e (c_X8_itemCount hP hn) dL_weightOf_6 (mX8_itemCount) rfl lL_149 iX8_itemCount vX8_itemCount (by decide) (by omega) (by exact hb) rfl rfl rfl rfl (Nat.le_of_ble_eq_true rfl) ?_
      rw [ok.1]
      refine g_icmp_ge (tgt := 39) dL_weightOf_9 (by decide) (fun _ => ?_) (fun c_9 => absurd (i_ge (Nat.le_refl _) (by omega)) c_9)
      refine g_iload_n dL_weightOf_39 rfl (by rfl) ?_
      refine g_ireturn dL_weightOf_40 rfl ?_
      exact ⟨rfl, rfl, rfl⟩
    | succ r ih =>
      intro i hi
      refine g_iload_n dL_weightOf_4 rfl (by rfl) ?_
      refine g_aload_n dL_weightOf_5 rfl (by rfl) ?_
      refine g_callV_e (c_X8_itemCount hP hn) dL_weightOf_6 (mX8_itemCount) rfl lL_149 iX8_itemCount vX8_itemCount (by decide) (by omega) (by exact hb) rfl rfl rfl rfl (Nat.le_of_ble_eq_true rfl) ?_
      rw [ok.1]
      refine g_icmp_ge (tgt := 39) dL_weightOf_9 (by decide) (fun c_9 => absurd c_9 (i_nge (by omega) (by omega))) (fun _ => ?_)
      refine g_iload_n dL_weightOf_12 rfl (by rfl) ?_
      refine g_iload_n dL_weightOf_13 rfl (by rfl) ?_
      refine g_iload_n dL_weightOf_14 rfl (by rfl) ?_
      refine g_ishr dL_weightOf_15 ?_
      refine g_iconst 1 dL_weightOf_16 (by rfl) ?_
      refine g_iand dL_weightOf_17 ?_
      refine g_iconst 1 dL_weightOf_18 (by rfl) ?_
      refine g_icmp_ne (tgt := 30) dL_weightOf_19 (by decide) (fun c_19 => ?_) (fun c_19 => ?_)
      · refine g_iconst 0 dL_weightOf_30 (by rfl) ?_
        refine g_iadd dL_weightOf_31 ?_
        refine g_top (d_tot (d_wt π.1) set (i + 1)) (by
          first
          | (rcases i_b1 (set >>> (nI i &&& 31)) with zb | zb
             · rw [d_tot, if_pos zb, Int32.add_zero]
             · exact absurd zb c_19)
          | rw [d_tot, if_neg (fun z => absurd (c_19.symm.trans z) (by decide))]) ?_
        refine g_istore_n dL_weightOf_32 rfl (by decide) ?_
        refine g_iinc (nI (i + 1)) dL_weightOf_33 (by rfl) (nI_inc i) ?_
        refine g_goto (tgt := 4) dL_weightOf_36 (by decide) ?_
        exact g_sub (g_lv (l := [(0, .ref b), (1, .int set), (2, .int (d_tot (d_wt π.1) set (i + 1))), (3, .int (nI (i + 1)))]) (ih (i + 1) (by omega)) ⟨by rfl, by rfl, by rfl, by rfl, trivial⟩) (fun _ _ z => z) (by omega) (by omega)
      · refine g_aload_n dL_weightOf_22 rfl (by rfl) ?_
        refine g_iload_n dL_weightOf_23 rfl (by rfl) ?_
        refine g_callSH (rest := [.int (d_tot (d_wt π.1) set i)]) (c_L_weight hP hn ok (i := i) (by omega)) dL_weightOf_24 mL_weight rfl lL_183 sL_weight (by decide) rfl rfl (Nat.le_of_ble_eq_true rfl) (by omega) (by omega) s_re.same (fun E h' z => by cases z.1) (fun v9 h9 z9 => ?_)
        obtain ⟨z1, z2, -⟩ := z9
        obtain rfl := z2.symm
        cases z1
        refine g_goto (tgt := 31) dL_weightOf_27 (by decide) ?_
        refine g_iadd dL_weightOf_31 ?_
        refine g_top (d_tot (d_wt π.1) set (i + 1)) (by
          first
          | (rcases i_b1 (set >>> (nI i &&& 31)) with zb | zb
             · rw [d_tot, if_pos zb, Int32.add_zero]
             · exact absurd zb c_19)
          | rw [d_tot, if_neg (fun z => absurd (c_19.symm.trans z) (by decide))]) ?_
        refine g_istore_n dL_weightOf_32 rfl (by decide) ?_
        refine g_iinc (nI (i + 1)) dL_weightOf_33 (by rfl) (nI_inc i) ?_
        refine g_goto (tgt := 4) dL_weightOf_36 (by decide) ?_
        exact g_sub (g_lv (l := [(0, .ref b), (1, .int set), (2, .int (d_tot (d_wt π.1) set (i + 1))), (3, .int (nI (i + 1)))]) (ih (i + 1) (by omega)) ⟨by rfl, by rfl, by rfl, by rfl, trivial⟩) (fun _ _ z => z) (by omega) (by omega)
  refine s_Mt_of rfl (by decide) (by exact Nat.le_of_ble_eq_true rfl) ?_
  refine g_iconst 0 dL_weightOf_0 (by rfl) ?_
  refine g_istore_n dL_weightOf_1 rfl (by decide) ?_
  refine g_iconst 0 dL_weightOf_2 (by rfl) ?_
  refine g_istore_n dL_weightOf_3 rfl (by decide) ?_
  exact g_sub (g_lv (l := [(0, .ref b), (1, .int set), (2, .int (d_tot (d_wt π.1) set (0))), (3, .int (nI (0)))]) (loop cnt 0 (by omega)) ⟨by rfl, by rfl, by rfl, by rfl, trivial⟩) (fun _ _ z => z) (by omega) (by omega)
theorem i_nlt2 {a : Nat} (h : 100 ≤ a) (hb : a < 2147483648) : ¬ nI a < (100 : Int32) := by
  rw [show (100 : Int32) = nI 100 from rfl, Int32.lt_iff_toInt_lt, nI_ti hb, nI_ti (by omega)]
  omega
theorem i_min {c : Nat} (h : c ≤ 100) : ∃ M, (if nI (c + 12) < (100 : Int32) then nI (c + 12) else 100) = nI M ∧ c ≤ M ∧ M ≤ 100 ∧ M ≤ c + 12 := by
  by_cases e : c + 12 < 100
  · exact ⟨c + 12, if_pos (show nI (c + 12) < (100 : Int32) from nI_lt (b := 100) e (by omega)), by omega, by omega, by omega⟩
  · exact ⟨100, if_neg (show ¬ nI (c + 12) < (100 : Int32) from i_nlt2 (by omega) (by omega)), h, Nat.le_refl _, by omega⟩
theorem i_w12 (c : Nat) : nI c + 12 = nI (c + 12) := nI_add' c 12
theorem i_1 (c : Nat) : nI c + 1 = nI (c + 1) := nI_add' c 1
theorem f_mono' {σ : s_D} {cnt cp c : Nat} (ok : d_ok σ cnt cp) (h9 : c + 1 ≤ 100) : r_wt (u_best σ cnt c) ≤ r_wt (u_best σ cnt (c + 1)) := Int32.not_lt.mp (f_mono ok (Nat.le_succ c) h9)

theorem c_L_grows {h : s_H} {n b : Nat} {π : s_Pl} (hP : s_pl h b π) (hn : b + 93 ≤ n) {cnt cp : Nat} (ok : d_ok π.1 cnt cp) {c0 : Nat} (hc0 : c0 ≤ 100) : s_Mt TL_grows 27 162 [.ref b, .int (nI c0)] h n (s_rp n (fun r h1 => r = some (.int 1) ∧ s_pl h1 b π) s_no) := by
  have h14 := ok.2.1
  have h100 := ok.2.2.2.1
  obtain ⟨M, hM, hM1, hM2, hM3⟩ := i_min hc0
  have loop : ∀ r c h', s_pl h' b π → c + r = M → s_G TL_grows (s_rp n (fun r h1 => r = some (.int 1) ∧ s_pl h1 b π) s_no) 10 (s_lvs [(0, .ref b), (1, .int (nI c0)), (2, .int (r_wt (u_best π.1 cnt c))), (3, .int (nI (c + 1)))]) [] h' n (2 * r + 2) (12 * r + 12) := by
    intro r
    induction r with
    | zero =>
      intro c h' hP hi
      have hb := hP.1
      unfold s_po at hb
      refine g_iload_n dL_grows_10 rfl (by rfl) ?_
      refine g_bipush 100 dL_grows_11 (by rfl) ?_
      refine g_iload_n dL_grows_13 rfl (by rfl) ?_
      refine g_bipush 12 dL_grows_14 (by rfl) ?_
      refine g_iadd dL_grows_16 ?_
      rw [i_w12]
      refine g_callS (rest := [.int (nI (c + 1))]) (c_min _ _) dL_grows_17 mJ9_min_7cf53 rfl lL_244 sJ9_min_7cf53 (by decide) rfl rfl (Nat.le_of_ble_eq_true rfl) (Nat.zero_le _) (Nat.zero_le _) s_re.same (fun v9 h9 z9 => ?_) (fun E h' z => by cases z.1)
      obtain ⟨z1, z2, -⟩ := z9
      obtain rfl := z2.symm
      cases z1
      rw [hM]
      refine g_icmp_gt (tgt := 46) dL_grows_20 (by decide) (fun _ => ?_) (fun c_20 => absurd (nI_lt (by omega) (by omega)) c_20)
      refine g_aload_n dL_grows_46 rfl (by rfl) ?_
      refine g_aload_n dL_grows_47 rfl (by rfl) ?_
      refine g_callV_e (c_X8_capacity hP hn) dL_grows_48 (mX8_capacity) rfl lL_210 iX8_capacity vX8_capacity (by decide) (by omega) (by exact hb) rfl rfl rfl rfl (Nat.le_of_ble_eq_true rfl) ?_
      rw [ok.2.2.1]
      refine g_callSH (rest := []) (c_L_weightAt hP hn ok h100) dL_grows_51 mL_weightAt rfl lL_242 sL_weightAt (by decide) rfl rfl (Nat.le_of_ble_eq_true rfl) (by omega) (by omega) s_rp.same (fun E h' z => z.2) (fun v9 h9 z9 => ?_)
      obtain ⟨-, z1, hP, -⟩ := z9
      cases z1
      have hb := hP.1
      unfold s_po at hb
      refine g_aload_n dL_grows_54 rfl (by rfl) ?_
      refine g_callV_p (c_X8_bestWeight hP hn ok) dL_grows_55 (mX8_bestWeight) rfl lL_219 iX8_bestWeight vX8_bestWeight (by decide) (by omega) (by exact hb) rfl rfl rfl rfl (Nat.le_of_ble_eq_true rfl) (fun v9 h9 z9 => ?_)
      obtain ⟨rfl, hP, -⟩ := z9
      have hb := hP.1
      unfold s_po at hb
      refine g_icmp_ne (tgt := 80) dL_grows_58 (by decide) (fun c_58 => absurd rfl c_58) (fun _ => ?_)
      refine g_aload_n dL_grows_61 rfl (by rfl) ?_
      refine g_aload_n dL_grows_62 rfl (by rfl) ?_
      refine g_callV_e (c_X8_capacity hP hn) dL_grows_63 (mX8_capacity) rfl lL_210 iX8_capacity vX8_capacity (by decide) (by omega) (by exact hb) rfl rfl rfl rfl (Nat.le_of_ble_eq_true rfl) ?_
      rw [ok.2.2.1]
      refine g_callSH (rest := []) (c_L_planAt hP hn ok h100) dL_grows_66 mL_planAt rfl lL_247 sL_planAt (by decide) rfl rfl (Nat.le_of_ble_eq_true rfl) (by omega) (by omega) s_rp.same (fun E h' z => z.2) (fun v9 h9 z9 => ?_)
      obtain ⟨-, z1, hP, -⟩ := z9
      cases z1
      have hb := hP.1
      unfold s_po at hb
      refine g_aload_n dL_grows_69 rfl (by rfl) ?_
      refine g_callV_p (c_X8_bestPlan hP hn ok) dL_grows_70 (mX8_bestPlan) rfl lL_213 iX8_bestPlan vX8_bestPlan (by decide) (by omega) (by exact hb) rfl rfl rfl rfl (Nat.le_of_ble_eq_true rfl) (fun v9 h9 z9 => ?_)
      obtain ⟨rfl, hP, -⟩ := z9
      have hb := hP.1
      unfold s_po at hb
      refine g_icmp_ne (tgt := 80) dL_grows_73 (by decide) (fun c_73 => absurd rfl c_73) (fun _ => ?_)
      refine g_iconst 1 dL_grows_76 (by rfl) ?_
      refine g_goto (tgt := 81) dL_grows_77 (by decide) ?_
      refine g_zreturn dL_grows_81 rfl (by decide) ?_
      exact ⟨rfl, rfl, hP⟩
    | succ r ih =>
      intro c h' hP hi
      have hb := hP.1
      unfold s_po at hb
      refine g_iload_n dL_grows_10 rfl (by rfl) ?_
      refine g_bipush 100 dL_grows_11 (by rfl) ?_
      refine g_iload_n dL_grows_13 rfl (by rfl) ?_
      refine g_bipush 12 dL_grows_14 (by rfl) ?_
      refine g_iadd dL_grows_16 ?_
      rw [i_w12]
      refine g_callS (rest := [.int (nI (c + 1))]) (c_min _ _) dL_grows_17 mJ9_min_7cf53 rfl lL_244 sJ9_min_7cf53 (by decide) rfl rfl (Nat.le_of_ble_eq_true rfl) (Nat.zero_le _) (Nat.zero_le _) s_re.same (fun v9 h9 z9 => ?_) (fun E h' z => by cases z.1)
      obtain ⟨z1, z2, -⟩ := z9
      obtain rfl := z2.symm
      cases z1
      rw [hM]
      refine g_icmp_gt (tgt := 46) dL_grows_20 (by decide) (fun c_20 => absurd c_20 (i_nlt (by omega) (by omega))) (fun _ => ?_)
      refine g_aload_n dL_grows_23 rfl (by rfl) ?_
      refine g_iload_n dL_grows_24 rfl (by rfl) ?_
      refine g_callSH (rest := []) (c_L_weightAt hP hn ok (c := c + 1) (by omega)) dL_grows_25 mL_weightAt rfl lL_242 sL_weightAt (by decide) rfl rfl (Nat.le_of_ble_eq_true rfl) (by omega) (by omega) s_rp.same (fun E h' z => z.2) (fun v9 h9 z9 => ?_)
      obtain ⟨-, z1, hP, -⟩ := z9
      cases z1
      have hb := hP.1
      unfold s_po at hb
      refine g_iload_n dL_grows_28 rfl (by rfl) ?_
      refine g_icmp_ge (tgt := 34) dL_grows_29 (by decide) (fun _ => ?_) (fun c_29 => absurd (f_mono' ok (by omega)) c_29)
      refine g_aload_n dL_grows_34 rfl (by rfl) ?_
      refine g_iload_n dL_grows_35 rfl (by rfl) ?_
      refine g_callSH (rest := []) (c_L_weightAt hP hn ok (c := c + 1) (by omega)) dL_grows_36 mL_weightAt rfl lL_242 sL_weightAt (by decide) rfl rfl (Nat.le_of_ble_eq_true rfl) (by omega) (by omega) s_rp.same (fun E h' z => z.2) (fun v9 h9 z9 => ?_)
      obtain ⟨-, z1, hP, -⟩ := z9
      cases z1
      have hb := hP.1
      unfold s_po at hb
      refine g_istore_n dL_grows_39 rfl (by decide) ?_
      refine g_iinc (nI (c + 1 + 1)) dL_grows_40 (by rfl) (nI_inc _) ?_
      refine g_goto (tgt := 10) dL_grows_43 (by decide) ?_
      exact g_sub (g_lv (l := [(0, .ref b), (1, .int (nI c0)), (2, .int (r_wt (u_best π.1 cnt (c + 1)))), (3, .int (nI ((c + 1) + 1)))]) (ih (c + 1) _ hP (by omega)) ⟨by rfl, by rfl, by rfl, by rfl, trivial⟩) (fun _ _ z => z) (by omega) (by omega)
  have hb := hP.1
  unfold s_po at hb
  refine s_Mt_of rfl (by decide) (by exact Nat.le_of_ble_eq_true rfl) ?_
  refine g_aload_n dL_grows_0 rfl (by rfl) ?_
  refine g_iload_n dL_grows_1 rfl (by rfl) ?_
  refine g_callSH (rest := []) (c_L_weightAt hP hn ok hc0) dL_grows_2 mL_weightAt rfl lL_242 sL_weightAt (by decide) rfl rfl (Nat.le_of_ble_eq_true rfl) (by omega) (by omega) s_rp.same (fun E h' z => z.2) (fun v9 h9 z9 => ?_)
  obtain ⟨-, z1, hP, -⟩ := z9
  cases z1
  have hb := hP.1
  unfold s_po at hb
  refine g_istore_n dL_grows_5 rfl (by decide) ?_
  refine g_iload_n dL_grows_6 rfl (by rfl) ?_
  refine g_iconst 1 dL_grows_7 (by rfl) ?_
  refine g_iadd dL_grows_8 ?_
  rw [i_1]
  refine g_istore_n dL_grows_9 rfl (by decide) ?_
  exact g_sub (g_lv (l := [(0, .ref b), (1, .int (nI c0)), (2, .int (r_wt (u_best π.1 cnt c0))), (3, .int (nI (c0 + 1)))]) (loop (M - c0) c0 _ hP (by omega)) ⟨by rfl, by rfl, by rfl, by rfl, trivial⟩) (fun _ _ z => z) (by omega) (by omega)
/-- what is seen: the counts and the ages -/
def x_sn (σ : s_D) : Nat → Int64
  | 0 => (σ.2 2).toInt64 + 31 * (σ.2 3).toInt64 + 961 * (σ.2 4).toInt64
  | i + 1 => 31 * x_sn σ i + (σ.1 2 i).toInt64
theorem d_eq.sn {cnt : Nat} {σ τ : s_D} (q : d_eq cnt σ τ) : ∀ i, i ≤ cnt → x_sn σ i = x_sn τ i
  | 0, _ => by
    unfold x_sn
    rw [q.1 2 (by omega), q.1 3 (by omega), q.1 4 (by omega)]
  | i + 1, h => by
    unfold x_sn
    rw [q.sn i (by omega), q.2 2 (by omega) i (by omega)]
theorem c_L_seen {h : s_H} {n b : Nat} {π : s_Pl} (hP : s_pl h b π) (hn : b + 93 ≤ n) {cnt cp : Nat} (ok : d_ok π.1 cnt cp) : s_Mt TL_seen 14 84 [.ref b] h n (s_re (some (.long (x_sn π.1 cnt))) h n) := by
  have hb := hP.1
  unfold s_po at hb
  have h14 := ok.2.1
  have loop : ∀ r i, i + r = cnt → s_G TL_seen (s_re (some (.long (x_sn π.1 cnt))) h n) 28 (s_lvs [(0, .ref b), (1, .long (x_sn π.1 (i))), (3, .int (nI (i)))]) [] h n r (6 * r) := by
    intro r
    induction r with
    | zero =>
      intro i hi
      obtain rfl : i = cnt := by omega
      refine g_iload_n dL_seen_28 rfl (by rfl) ?_
      refine g_aload_n dL_seen_29 rfl (by rfl) ?_
      refine g_callV_e (c_X8_itemCount hP hn) dL_seen_30 (mX8_itemCount) rfl lL_149 iX8_itemCount vX8_itemCount (by decide) (by omega) (by exact hb) rfl rfl rfl rfl (Nat.le_of_ble_eq_true rfl) ?_
      rw [ok.1]
      refine g_icmp_ge (tgt := 55) dL_seen_33 (by decide) (fun _ => ?_) (fun c_33 => absurd (i_ge (Nat.le_refl _) (by omega)) c_33)
      refine g_lload_n dL_seen_55 rfl (by rfl) ?_
      refine g_lreturn dL_seen_56 rfl ?_
      exact ⟨rfl, rfl, rfl⟩
    | succ r ih =>
      intro i hi
      refine g_iload_n dL_seen_28 rfl (by rfl) ?_
      refine g_aload_n dL_seen_29 rfl (by rfl) ?_
      refine g_callV_e (c_X8_itemCount hP hn) dL_seen_30 (mX8_itemCount) rfl lL_149 iX8_itemCount vX8_itemCount (by decide) (by omega) (by exact hb) rfl rfl rfl rfl (Nat.le_of_ble_eq_true rfl) ?_
      rw [ok.1]
      refine g_icmp_ge (tgt := 55) dL_seen_33 (by decide) (fun c_33 => absurd c_33 (i_nge (by omega) (by omega))) (fun _ => ?_)
      refine g_ldc2 dL_seen_36 kL_252 ?_
      refine g_lload_n dL_seen_39 rfl (by rfl) ?_
      refine g_lmul dL_seen_40 ?_
      refine g_aload_n dL_seen_41 rfl (by rfl) ?_
      refine g_iload_n dL_seen_42 rfl (by rfl) ?_
      refine g_callSH (rest := [.long (31 * x_sn π.1 i)]) (c_L_age hP hn ok (i := i) (by omega)) dL_seen_43 mL_age rfl lL_190 sL_age (by decide) rfl rfl (Nat.le_of_ble_eq_true rfl) (by omega) (by omega) s_re.same (fun E h' z => by cases z.1) (fun v9 h9 z9 => ?_)
      obtain ⟨z1, z2, -⟩ := z9
      obtain rfl := z2.symm
      cases z1
      refine g_i2l dL_seen_46 ?_
      refine g_ladd dL_seen_47 ?_
      refine g_lstore_n dL_seen_48 rfl (by decide) ?_
      refine g_iinc (nI (i + 1)) dL_seen_49 (by rfl) (nI_inc i) ?_
      refine g_goto (tgt := 28) dL_seen_52 (by decide) ?_
      exact g_sub (g_lv (l := [(0, .ref b), (1, .long (x_sn π.1 (i + 1))), (3, .int (nI (i + 1)))]) (ih (i + 1) (by omega)) ⟨by rfl, by rfl, by rfl, trivial⟩) (fun _ _ z => z) (by omega) (by omega)
  refine s_Mt_of rfl (by decide) (by exact Nat.le_of_ble_eq_true rfl) ?_
  refine g_aload_n dL_seen_0 rfl (by rfl) ?_
  refine g_callV_e (c_X8_backupCount hP hn) dL_seen_1 (mX8_backupCount) rfl lL_249 iX8_backupCount vX8_backupCount (by decide) (by omega) (by exact hb) rfl rfl rfl rfl (Nat.le_of_ble_eq_true rfl) ?_
  refine g_i2l dL_seen_4 ?_
  refine g_ldc2 dL_seen_5 kL_252 ?_
  refine g_aload_n dL_seen_8 rfl (by rfl) ?_
  refine g_callV_e (c_X8_backedUpSize hP hn) dL_seen_9 (mX8_backedUpSize) rfl lL_254 iX8_backedUpSize vX8_backedUpSize (by decide) (by omega) (by exact hb) rfl rfl rfl rfl (Nat.le_of_ble_eq_true rfl) ?_
  refine g_i2l dL_seen_12 ?_
  refine g_lmul dL_seen_13 ?_
  refine g_ladd dL_seen_14 ?_
  refine g_ldc2 dL_seen_15 kL_257 ?_
  refine g_aload_n dL_seen_18 rfl (by rfl) ?_
  refine g_callV_e (c_X8_backedUpWeight hP hn) dL_seen_19 (mX8_backedUpWeight) rfl lL_259 iX8_backedUpWeight vX8_backedUpWeight (by decide) (by omega) (by exact hb) rfl rfl rfl rfl (Nat.le_of_ble_eq_true rfl) ?_
  refine g_i2l dL_seen_22 ?_
  refine g_lmul dL_seen_23 ?_
  refine g_ladd dL_seen_24 ?_
  refine g_lstore_n dL_seen_25 rfl (by decide) ?_
  refine g_iconst 0 dL_seen_26 (by rfl) ?_
  refine g_istore_n dL_seen_27 rfl (by decide) ?_
  exact g_sub (g_lv (l := [(0, .ref b), (1, .long (x_sn π.1 (0))), (3, .int (nI (0)))]) (loop cnt 0 (by omega)) ⟨by rfl, by rfl, by rfl, trivial⟩) (fun _ _ z => z) (by omega) (by omega)
