/-! THE LAW: its loop, its start (written by wip/src/law8.py) -/
theorem w_and (x : Int32) : ∃ k, k < 64 ∧ x &&& 63 = nI k := ⟨(x &&& 63).toBitVec.toNat, by
    rw [Int32.toBitVec_and, BitVec.toNat_and]
    exact Nat.lt_succ_of_le (Nat.le_trans Nat.and_le_right (by decide)), by
    apply Int32.toBitVec_inj.mp
    show _ = BitVec.ofNat 32 _
    rw [BitVec.ofNat_toNat, BitVec.setWidth_eq]⟩
theorem w_sub {L : Nat} (hL : L ≤ 3072) : (nI L - 6).toInt = (L : Int) - 6 := pk_sub_toInt (a := L) (b := 6) (by omega) (by decide)
theorem w_gt {L i : Nat} (hL : L ≤ 3072) (hi : i ≤ 3072) (h : L < i + 6) : nI L - 6 < nI i := by
  rw [Int32.lt_iff_toInt_lt, w_sub hL, nI_toInt (by omega)]
  omega
theorem w_ng {L i : Nat} (hL : L ≤ 3072) (h : i + 6 ≤ L) : ¬ nI L - 6 < nI i := by
  rw [Int32.lt_iff_toInt_lt, w_sub hL, nI_toInt (by omega)]
  omega
theorem w_sw {L t kc ks : Nat} {xs : Nat → Int32} (hL : L ≤ 3072) (ht : 6 * t + 6 ≤ L) (K : w_K L xs t kc ks) {h : s_H} {π : s_Pl} (q : w_St h π) : ∀ k, k < 64 → s_GL (s_Os L xs) TL_law w_Φ 40 (s_lvs (w_lv t)) [.int (nI k)] h 115 (kc + 2) (ks + 12)
  | 0, _ => gl_tabIn (tgt := 312) dL_law_40 (by decide) (by decide) rfl (by rfl) (w_c0 hL ht K q)
  | 1, _ => gl_tabIn (tgt := 385) dL_law_40 (by decide) (by decide) rfl (by rfl) (w_c1 hL ht K q)
  | 2, _ => gl_tabIn (tgt := 441) dL_law_40 (by decide) (by decide) rfl (by rfl) (w_c2 hL ht K q)
  | 3, _ => gl_tabIn (tgt := 454) dL_law_40 (by decide) (by decide) rfl (by rfl) (w_c3 hL ht K q)
  | 4, _ => gl_tabIn (tgt := 467) dL_law_40 (by decide) (by decide) rfl (by rfl) (w_c4 hL ht K q)
  | 5, _ => gl_tabIn (tgt := 535) dL_law_40 (by decide) (by decide) rfl (by rfl) (w_c5 hL ht K q)
  | 6, _ => gl_tabIn (tgt := 591) dL_law_40 (by decide) (by decide) rfl (by rfl) (w_c6 hL ht K q)
  | 7, _ => gl_tabIn (tgt := 659) dL_law_40 (by decide) (by decide) rfl (by rfl) (w_c7 hL ht K q)
  | 8, _ => gl_tabIn (tgt := 727) dL_law_40 (by decide) (by decide) rfl (by rfl) (w_c8 hL ht K q)
  | 9, _ => gl_tabIn (tgt := 783) dL_law_40 (by decide) (by decide) rfl (by rfl) (w_c9 hL ht K q)
  | 10, _ => gl_tabIn (tgt := 839) dL_law_40 (by decide) (by decide) rfl (by rfl) (w_c10 hL ht K q)
  | 11, _ => gl_tabIn (tgt := 895) dL_law_40 (by decide) (by decide) rfl (by rfl) (w_c11 hL ht K q)
  | 12, _ => gl_tabIn (tgt := 951) dL_law_40 (by decide) (by decide) rfl (by rfl) (w_c12 hL ht K q)
  | 13, _ => gl_tabIn (tgt := 995) dL_law_40 (by decide) (by decide) rfl (by rfl) (w_c13 hL ht K q)
  | 14, _ => gl_tabIn (tgt := 1008) dL_law_40 (by decide) (by decide) rfl (by rfl) (w_c14 hL ht K q)
  | 15, _ => gl_tabIn (tgt := 1064) dL_law_40 (by decide) (by decide) rfl (by rfl) (w_c15 hL ht K q)
  | 16, _ => gl_tabIn (tgt := 1077) dL_law_40 (by decide) (by decide) rfl (by rfl) (w_c16 hL ht K q)
  | 17, _ => gl_tabIn (tgt := 1090) dL_law_40 (by decide) (by decide) rfl (by rfl) (w_c17 hL ht K q)
  | 18, _ => gl_tabIn (tgt := 1103) dL_law_40 (by decide) (by decide) rfl (by rfl) (w_c18 hL ht K q)
  | 19, _ => gl_tabIn (tgt := 1147) dL_law_40 (by decide) (by decide) rfl (by rfl) (w_c19 hL ht K q)
  | 20, _ => gl_tabIn (tgt := 1160) dL_law_40 (by decide) (by decide) rfl (by rfl) (w_c20 hL ht K q)
  | 21, _ => gl_tabIn (tgt := 1173) dL_law_40 (by decide) (by decide) rfl (by rfl) (w_c21 hL ht K q)
  | 22, _ => gl_tabIn (tgt := 1186) dL_law_40 (by decide) (by decide) rfl (by rfl) (w_c22 hL ht K q)
  | 23, _ => gl_tabIn (tgt := 1199) dL_law_40 (by decide) (by decide) rfl (by rfl) (w_c23 hL ht K q)
  | 24, _ => gl_tabIn (tgt := 1255) dL_law_40 (by decide) (by decide) rfl (by rfl) (w_c24 hL ht K q)
  | 25, _ => gl_tabIn (tgt := 1311) dL_law_40 (by decide) (by decide) rfl (by rfl) (w_c25 hL ht K q)
  | 26, _ => gl_tabIn (tgt := 1367) dL_law_40 (by decide) (by decide) rfl (by rfl) (w_c26 hL ht K q)
  | 27, _ => gl_tabIn (tgt := 1423) dL_law_40 (by decide) (by decide) rfl (by rfl) (w_c27 hL ht K q)
  | 28, _ => gl_tabIn (tgt := 1479) dL_law_40 (by decide) (by decide) rfl (by rfl) (w_c28 hL ht K q)
  | 29, _ => gl_tabIn (tgt := 1492) dL_law_40 (by decide) (by decide) rfl (by rfl) (w_c29 hL ht K q)
  | 30, _ => gl_tabIn (tgt := 1505) dL_law_40 (by decide) (by decide) rfl (by rfl) (w_c30 hL ht K q)
  | 31, _ => gl_tabIn (tgt := 1518) dL_law_40 (by decide) (by decide) rfl (by rfl) (w_c31 hL ht K q)
  | 32, _ => gl_tabIn (tgt := 1531) dL_law_40 (by decide) (by decide) rfl (by rfl) (w_c32 hL ht K q)
  | 33, _ => gl_tabIn (tgt := 1544) dL_law_40 (by decide) (by decide) rfl (by rfl) (w_c33 hL ht K q)
  | 34, _ => gl_tabIn (tgt := 1557) dL_law_40 (by decide) (by decide) rfl (by rfl) (w_c34 hL ht K q)
  | 35, _ => gl_tabIn (tgt := 1570) dL_law_40 (by decide) (by decide) rfl (by rfl) (w_c35 hL ht K q)
  | 36, _ => gl_tabIn (tgt := 1583) dL_law_40 (by decide) (by decide) rfl (by rfl) (w_c36 hL ht K q)
  | 37, _ => gl_tabIn (tgt := 1646) dL_law_40 (by decide) (by decide) rfl (by rfl) (w_c37 hL ht K q)
  | 38, _ => gl_tabIn (tgt := 1659) dL_law_40 (by decide) (by decide) rfl (by rfl) (w_c38 hL ht K q)
  | 39, _ => gl_tabIn (tgt := 1715) dL_law_40 (by decide) (by decide) rfl (by rfl) (w_c39 hL ht K q)
  | 40, _ => gl_tabIn (tgt := 1771) dL_law_40 (by decide) (by decide) rfl (by rfl) (w_c40 hL ht K q)
  | 41, _ => gl_tabIn (tgt := 1796) dL_law_40 (by decide) (by decide) rfl (by rfl) (w_c41 hL ht K q)
  | 42, _ => gl_tabIn (tgt := 1809) dL_law_40 (by decide) (by decide) rfl (by rfl) (w_c42 hL ht K q)
  | 43, _ => gl_tabIn (tgt := 1822) dL_law_40 (by decide) (by decide) rfl (by rfl) (w_c43 hL ht K q)
  | 44, _ => gl_tabIn (tgt := 1835) dL_law_40 (by decide) (by decide) rfl (by rfl) (w_c44 hL ht K q)
  | 45, _ => gl_tabIn (tgt := 1903) dL_law_40 (by decide) (by decide) rfl (by rfl) (w_c45 hL ht K q)
  | 46, _ => gl_tabIn (tgt := 1978) dL_law_40 (by decide) (by decide) rfl (by rfl) (w_c46 hL ht K q)
  | 47, _ => gl_tabIn (tgt := 1991) dL_law_40 (by decide) (by decide) rfl (by rfl) (w_c47 hL ht K q)
  | 48, _ => gl_tabIn (tgt := 2004) dL_law_40 (by decide) (by decide) rfl (by rfl) (w_c48 hL ht K q)
  | 49, _ => gl_tabIn (tgt := 2017) dL_law_40 (by decide) (by decide) rfl (by rfl) (w_c49 hL ht K q)
  | 50, _ => gl_tabIn (tgt := 2073) dL_law_40 (by decide) (by decide) rfl (by rfl) (w_c50 hL ht K q)
  | 51, _ => gl_tabIn (tgt := 2129) dL_law_40 (by decide) (by decide) rfl (by rfl) (w_c51 hL ht K q)
  | 52, _ => gl_tabIn (tgt := 2185) dL_law_40 (by decide) (by decide) rfl (by rfl) (w_c52 hL ht K q)
  | 53, _ => gl_tabIn (tgt := 2241) dL_law_40 (by decide) (by decide) rfl (by rfl) (w_c53 hL ht K q)
  | 54, _ => gl_tabIn (tgt := 2297) dL_law_40 (by decide) (by decide) rfl (by rfl) (w_c54 hL ht K q)
  | 55, _ => gl_tabIn (tgt := 2353) dL_law_40 (by decide) (by decide) rfl (by rfl) (w_c55 hL ht K q)
  | 56, _ => gl_tabIn (tgt := 2366) dL_law_40 (by decide) (by decide) rfl (by rfl) (w_c56 hL ht K q)
  | 57, _ => gl_tabIn (tgt := 2379) dL_law_40 (by decide) (by decide) rfl (by rfl) (w_c57 hL ht K q)
  | 58, _ => gl_tabIn (tgt := 2392) dL_law_40 (by decide) (by decide) rfl (by rfl) (w_c58 hL ht K q)
  | 59, _ => gl_tabIn (tgt := 2433) dL_law_40 (by decide) (by decide) rfl (by rfl) (w_c59 hL ht K q)
  | 60, _ => gl_tabIn (tgt := 2476) dL_law_40 (by decide) (by decide) rfl (by rfl) (w_c60 hL ht K q)
  | 61, _ => gl_tabIn (tgt := 2489) dL_law_40 (by decide) (by decide) rfl (by rfl) (w_c61 hL ht K q)
  | 62, _ => gl_tabIn (tgt := 2502) dL_law_40 (by decide) (by decide) rfl (by rfl) (w_c62 hL ht K q)
  | 63, _ => gl_tabIn (tgt := 2558) dL_law_40 (by decide) (by decide) rfl (by rfl) (w_c63 hL ht K q)
  | k + 64, hk => absurd hk (by omega)
theorem w_loop {L : Nat} {xs : Nat → Int32} (hL : L ≤ 3072) : ∀ (r t : Nat) (h : s_H) (π : s_Pl), 6 * (t + r) ≤ L → L < 6 * (t + r) + 6 → w_St h π → s_GL (s_Os L xs) TL_law w_Φ 23 (s_lvs (w_lv t)) [] h 115 (2 * r) (12 * r) := by
  intro r
  induction r with
  | zero =>
    intro t h π h1 h2 q
    refine gl_iload dL_law_23 (by rfl) ?_
    refine gl_aload_n dL_law_25 rfl (by rfl) ?_
    refine gl_slen dL_law_26 ?_
    refine gl_bipush 6 dL_law_27 (by rfl) ?_
    refine gl_isub dL_law_29 ?_
    refine gl_icmp_gt (tgt := 2589) dL_law_30 (by decide) (fun _ => ?_) (fun c => absurd (w_gt hL (by omega) (by omega)) c)
    refine gl_iconst 1 dL_law_2589 (by rfl) ?_
    exact gl_zreturn dL_law_2590 rfl (Or.inr rfl) rfl
  | succ r ih =>
    intro t h π h1 h2 q
    refine gl_iload dL_law_23 (by rfl) ?_
    refine gl_aload_n dL_law_25 rfl (by rfl) ?_
    refine gl_slen dL_law_26 ?_
    refine gl_bipush 6 dL_law_27 (by rfl) ?_
    refine gl_isub dL_law_29 ?_
    refine gl_icmp_gt (tgt := 2589) dL_law_30 (by decide) (fun c => absurd c (w_ng hL (by omega))) (fun _ => ?_)
    refine gl_aload_n dL_law_33 rfl (by rfl) ?_
    refine gl_iload dL_law_34 (by rfl) ?_
    refine gl_sld hL dL_law_36 rfl (by omega) ?_
    refine gl_bipush 63 dL_law_37 (by rfl) ?_
    refine gl_iand dL_law_39 ?_
    obtain ⟨k, hk, e⟩ := w_and (xs (6 * t))
    rw [e]
    refine w_sw (kc := 2 * r) (ks := 12 * r) hL (by omega) (fun h9 π9 q9 => ?_) q k hk
    refine gl_iinc (nI (6 * (t + 1))) dL_law_2583 (by rfl) (nI_add _ _) ?_
    refine gl_goto (tgt := 23) dL_law_2586 (by decide) ?_
    exact gl_lv (ih (t + 1) h9 π9 (by omega) (by omega) q9) ⟨by rfl, by rfl, by rfl, by rfl, by rfl, trivial⟩
theorem wk_L_8 : Cond.classLink RL 8 RX8 ∈ s_WL := s_WL_of 108 (by decide +kernel) rfl
theorem wk_L_110 : Cond.classLink RL 110 RX9 ∈ s_WL := s_WL_of 1109 (by decide +kernel) rfl
theorem wn_8 : Cond.instantiable RX8 9 ∈ s_WL := s_WL_of 109 (by decide +kernel) rfl
theorem wn_9 : Cond.instantiable RX9 25 ∈ s_WL := s_WL_of 1110 (by decide +kernel) rfl
theorem wz_8 : Cond.initialized RX8 ∈ s_WL := s_WL_of 86 (by decide +kernel) rfl
theorem wz_9 : Cond.initialized RX9 ∈ s_WL := s_WL_of 93 (by decide +kernel) rfl
theorem zf_X8 : ∀ j, j < 9 → defaultValue (tyX8 j) = vp_V [.null, .null, .null, .int 0, .null, .null, .null, .null, .null] j := fun j hj => by
  have h : j = 0 ∨ j = 1 ∨ j = 2 ∨ j = 3 ∨ j = 4 ∨ j = 5 ∨ j = 6 ∨ j = 7 ∨ j = 8 := by omega
  rcases h with rfl | rfl | rfl | rfl | rfl | rfl | rfl | rfl | rfl <;> rfl
theorem zv_X8 {n : Nat} : ∀ v ∈ ([.null, .null, .null, .int 0, .null, .null, .null, .null, .null] : List Value), s_vo n v := fun v hv => by
  simp only [List.mem_cons, List.not_mem_nil, or_false] at hv
  rcases hv with rfl | rfl | rfl | rfl | rfl | rfl | rfl | rfl | rfl <;> trivial
theorem zf_X9 : ∀ j, j < 25 → defaultValue (tyX9 j) = vp_V [.int 0, .null, .null, .int 0, .null, .int 0, .null, .null, .null, .int 0, .null, .int 0, .null, .null, .null, .int 0, .int 0, .int 0, .int 0, .int 0, .int 0, .int 0, .int 0, .int 0, .int 0] j := fun j hj => by
  have h : j = 0 ∨ j = 1 ∨ j = 2 ∨ j = 3 ∨ j = 4 ∨ j = 5 ∨ j = 6 ∨ j = 7 ∨ j = 8 ∨ j = 9 ∨ j = 10 ∨ j = 11 ∨ j = 12 ∨ j = 13 ∨ j = 14 ∨ j = 15 ∨ j = 16 ∨ j = 17 ∨ j = 18 ∨ j = 19 ∨ j = 20 ∨ j = 21 ∨ j = 22 ∨ j = 23 ∨ j = 24 := by omega
  rcases h with rfl | rfl | rfl | rfl | rfl | rfl | rfl | rfl | rfl | rfl | rfl | rfl | rfl | rfl | rfl | rfl | rfl | rfl | rfl | rfl | rfl | rfl | rfl | rfl | rfl <;> rfl
theorem zv_X9 {n : Nat} : ∀ v ∈ ([.int 0, .null, .null, .int 0, .null, .int 0, .null, .null, .null, .int 0, .null, .int 0, .null, .null, .null, .int 0, .int 0, .int 0, .int 0, .int 0, .int 0, .int 0, .int 0, .int 0, .int 0] : List Value), s_vo n v := fun v hv => by
  simp only [List.mem_cons, List.not_mem_nil, or_false] at hv
  rcases hv with rfl | rfl | rfl | rfl | rfl | rfl | rfl | rfl | rfl | rfl | rfl | rfl | rfl | rfl | rfl | rfl | rfl | rfl | rfl | rfl | rfl | rfl | rfl | rfl | rfl <;> trivial

theorem s_pl.lo0 {h h1 : s_H} {π : s_Pl} (q : s_pl h 0 π) (z : s_lo h h1 93) : s_pl h1 0 π := by
  obtain ⟨q1, q2, q3, ⟨σt, q4⟩, ⟨pm, q5⟩, ⟨τ, q6, q6'⟩, ⟨o, len, ⟨g1, f, g2, g3⟩, q7⟩, ⟨nx, tk, ts, ex, q8, q8'⟩, r1, r2, fr, r3, r4⟩ := q
  have zm : s_md h h1 0 93 := fun j _ c => z j c
  unfold s_po at q1
  exact ⟨(z _ (by omega)).trans q1, q2.md zm (by omega), q3.md zm (by omega), ⟨σt, q4.md zm (by omega)⟩, ⟨pm, q5.md zm (by omega)⟩, ⟨τ, q6.md zm (by omega), q6'⟩,
    ⟨o, len, ⟨(z _ (by omega)).trans g1, f, (z _ (by omega)).trans g2, g3⟩, q7⟩, ⟨nx, tk, ts, ex, (z _ (by omega)).trans q8, (z _ (by omega)).trans q8'⟩, (z _ (by omega)).trans r1, r2, fr, (z _ (by omega)).trans r3, r4⟩
theorem w_main {L : Nat} {xs : Nat → Int32} (hL : L ≤ 3072) (h : s_H) : s_GL (s_Os L xs) TL_law w_Φ 0 (s_ent [.ref (s_big + 500)]) [] h 0 601024 7293034 := by
  have hB : ∀ n, s_vo n (.ref (s_big + 500)) := fun n => Or.inr (Nat.le_add_right _ _)
  have hs9 : 115 ≤ s_big := by decide
  have hcl : s_cl h 0 := fun i hi => absurd hi (Nat.not_lt_zero _)
  have hv0 : ∀ n i v, s_ent [Value.ref (s_big + 500)] i = some v → s_vo n v := fun n => s_lvs_vo (l := [(0, .ref (s_big + 500))]) (List.forall_mem_cons.mpr ⟨hB n, fun _ z => nomatch z⟩)
  have hnl : ∀ n, ∀ v ∈ ([] : List Value), s_vo n v := fun n v z => nomatch z
  refine gl_new' (ci := 6) (C := RX8) (T9 := TX8) (N := 9) tyX8 dL_law_0 rfl wiX8 tyX8_ok wk_L_8 wn_8 wz_8 zf_X8 zv_X8 (by omega) hcl (hv0 0) (hnl 0) (by omega) (by omega) (fun h1 e1 hcl => ?_)
  have ho := s_up_at e1
  refine gl_dup dL_law_3 (by rfl) ?_
  refine gl_callIg (rest := [.ref 0]) (c_X8_init ho hcl (by omega)) dL_law_4 mX8_init rfl lL_109 iX8_init rfl rfl (by decide) rfl rfl (Nat.le_of_ble_eq_true rfl) (by omega) (by omega) (fun E h' n' z => by cases z.1) (hv0 1) (s_vo1 (show 0 < 0 + 1 by omega)) (fun v h2 n' z hnn => ?_)
  obtain ⟨zo, rfl, hcl, hP, hlo⟩ := z
  cases zo
  refine gl_astore_n dL_law_7 rfl (by decide) ?_
  refine gl_lv (l := [(0, .ref (s_big + 500)), (1, .ref 0)]) ?_ ⟨by rfl, by rfl, trivial⟩
  have hv1 : ∀ n, 0 < n → ∀ i v, s_lvs [(0, .ref (s_big + 500)), (1, .ref 0)] i = some v → s_vo n v := fun n hn => s_lvs_vo (List.forall_mem_cons.mpr ⟨hB n, List.forall_mem_cons.mpr ⟨Or.inl hn, fun _ z => nomatch z⟩⟩)
  refine gl_new' (ci := 7) (C := RX9) (T9 := TX9) (N := 25) tyX9 dL_law_8 rfl wiX9 tyX9_ok wk_L_110 wn_9 wz_9 zf_X9 zv_X9 (by omega) hcl (hv1 _ (by omega)) (hnl _) (by omega) (by omega) (fun h3 e3 hcl => ?_)
  have ho := s_up_at e3
  have hP := hP.off (s_off.rf.up e3 (show 93 ≤ 0 + 93 ∧ 0 + 93 < 94 by omega)) (by omega)
  refine gl_dup dL_law_11 (by rfl) ?_
  refine gl_callIg (rest := [.ref (0 + 93)]) (c_X9_init ho hcl (by omega)) dL_law_12 mX9_init rfl lL_112 iX9_init rfl rfl (by decide) rfl rfl (Nat.le_of_ble_eq_true rfl) (by omega) (by omega) (fun E h' n' z => by cases z.1) (hv1 _ (by omega)) (s_vo1 (show 0 + 93 < 0 + 93 + 1 by omega)) (fun v h4 n' z hnn => ?_)
  obtain ⟨zo, rfl, hcl, hR, hlo⟩ := z
  cases zo
  have hP := hP.lo0 hlo
  refine gl_astore_n dL_law_15 rfl (by decide) ?_
  refine gl_lv (l := [(0, .ref (s_big + 500)), (1, .ref 0), (2, .ref 93)]) ?_ ⟨by rfl, by rfl, by rfl, trivial⟩
  have hv2 : ∀ n, 93 < n → ∀ i v, s_lvs [(0, .ref (s_big + 500)), (1, .ref 0), (2, .ref 93)] i = some v → s_vo n v := fun n hn => s_lvs_vo (List.forall_mem_cons.mpr ⟨hB n, List.forall_mem_cons.mpr ⟨s_vo_r (show 0 < n by omega), List.forall_mem_cons.mpr ⟨s_vo_r hn, fun _ z => nomatch z⟩⟩⟩)
  refine gl_iconst (nI 1) dL_law_16 (by rfl) ?_
  refine gl_newaL (N' := 1) dL_law_17 wa_L rfl (by omega) (by omega) hcl (hv2 _ (by omega)) (hnl _) (by omega) (by omega) (fun h5 e5 hcl => ?_)
  have ho := s_up_at e5
  have hP := hP.off (s_off.rf.up e5 (show 114 ≤ 0 + 93 + 21 ∧ 0 + 93 + 21 < 115 by omega)) (by omega)
  have hR := hR.off (s_off.rf.up e5 (show 114 ≤ 0 + 93 + 21 ∧ 0 + 93 + 21 < 115 by omega)) (by omega)
  refine gl_astore_n dL_law_19 rfl (by decide) ?_
  refine gl_iconst (nI 0) dL_law_20 (by rfl) ?_
  refine gl_istore dL_law_21 (by decide) ?_
  have q : w_St h5 pl_ini := ⟨hP, ⟨0, hR⟩, ⟨_, ho⟩, fun i hi => absurd hi (Nat.not_lt_zero _)⟩
  exact gl_sub (w_loop hL (L / 6) 0 h5 pl_ini (by omega) (by omega) q) (s_all_sub _ _ ⟨by rfl, by rfl, by rfl, by rfl, by rfl, trivial⟩) (by omega) (by omega)
