/-! THE LAW: began (written by wip/p67/began.py) -/
theorem s_pl.lo {h h1 : s_H} {b : Nat} {π : s_Pl} (q : s_pl h b π) (z : s_lo h h1 (b + 93)) : s_pl h1 b π := by
  obtain ⟨q1, q2, q3, ⟨σt, q4⟩, ⟨pm, q5⟩, ⟨τ, q6, q6'⟩, ⟨o, len, ⟨g1, f, g2, g3⟩, q7⟩, ⟨nx, tk, ts, ex, q8, q8'⟩, r1, r2, fr, r3, r4⟩ := q
  have zm : s_md h h1 b (b + 93) := fun j _ c => z j c
  unfold s_po at q1
  exact ⟨(z _ (by omega)).trans q1, q2.md zm (by omega), q3.md zm (by omega), ⟨σt, q4.md zm (by omega)⟩, ⟨pm, q5.md zm (by omega)⟩, ⟨τ, q6.md zm (by omega), q6'⟩,
    ⟨o, len, ⟨(z _ (by omega)).trans g1, f, (z _ (by omega)).trans g2, g3⟩, q7⟩, ⟨nx, tk, ts, ex, (z _ (by omega)).trans q8, (z _ (by omega)).trans q8'⟩, (z _ (by omega)).trans r1, r2, fr, (z _ (by omega)).trans r3, r4⟩
theorem a_by_lo {tx : Nat → Int32} {len i : Nat} {x : Int32} (h : i < len) : ∀ k, a_by tx len x k i = tx i
  | 0 => rfl
  | k + 1 => by
    show (if i = len + k then _ else a_by tx len x k i) = _
    rw [if_neg (by omega)]
    exact a_by_lo h k
theorem a_by_at {tx : Nat → Int32} {len j : Nat} {x : Int32} : ∀ k, j < k → a_by tx len x k (len + j) = p_by (x >>> (a_sh j &&& 31))
  | 0, h => by omega
  | k + 1, h => by
    show (if len + j = len + k then _ else a_by tx len x k (len + j)) = _
    by_cases e : j = k
    · rw [if_pos (by omega), e]
    · rw [if_neg (by omega)]
      exact a_by_at k (by omega)
/-- the twenty bytes of five words -/
theorem x_ap {tx ty : Nat → Int32} {w : Nat → Int32} (h : ∀ i, i < 20 → p_by (w (i / 4) >>> (a_sh (i % 4) &&& 31)) = ty i) : ∀ i, i < 20 → a_by (a_by (a_by (a_by (a_by tx 0 (w 0) 4) (0 + 4) (w 1) 4) (0 + 8) (w 2) 4) (0 + 12) (w 3) 4) (0 + 16) (w 4) 4 i = ty i := fun i hi => by
  have hh := h i hi
  by_cases e4 : 0 + 16 ≤ i
  · rw [show i / 4 = 4 by omega, show i % 4 = i - 16 by omega] at hh
    rw [← hh, ← a_by_at 4 (show i - 16 < 4 by omega)]
    congr 1
    omega
  · rw [a_by_lo (by omega)]
    by_cases e3 : 0 + 12 ≤ i
    · rw [show i / 4 = 3 by omega, show i % 4 = i - 12 by omega] at hh
      rw [← hh, ← a_by_at 4 (show i - 12 < 4 by omega)]
      congr 1
      omega
    · rw [a_by_lo (by omega)]
      by_cases e2 : 0 + 8 ≤ i
      · rw [show i / 4 = 2 by omega, show i % 4 = i - 8 by omega] at hh
        rw [← hh, ← a_by_at 4 (show i - 8 < 4 by omega)]
        congr 1
        omega
      · rw [a_by_lo (by omega)]
        by_cases e1 : 0 + 4 ≤ i
        · rw [show i / 4 = 1 by omega, show i % 4 = i - 4 by omega] at hh
          rw [← hh, ← a_by_at 4 (show i - 4 < 4 by omega)]
          congr 1
          omega
        · rw [a_by_lo (by omega)]
          rw [show i / 4 = 0 by omega, show i % 4 = i - 0 by omega] at hh
          rw [← hh, ← a_by_at 4 (show i - 0 < 4 by omega)]
          congr 1
          omega

theorem c_L_began {h : s_H} {n b : Nat} (hI : w_In h b 0) (hn : b + 93 ≤ n) (hcl : s_cl h n) (hn9 : n + 6 ≤ s_big) : s_Mt TL_began 6 97 [.ref b, .ref (s_big + 500)] h n (fun o h1 n1 => o = .inl (some (.int 0)) ∧ n1 = n + 6 ∧ ∃ L, w_In h1 b L) := by
  obtain ⟨π, cnt, cp, hP0, ok, hl, hL⟩ := hI
  have loop : ∀ (d : Nat), d < 80 → ∀ r i h', i + r = 20 → (h' (n + 3) = .inr (7, [.ref (n + 4), .int 0, .int 0, .int 0]) ∧ h' (n + 4) = .inl (2, x_tl d, .inl (x_tf d))) → h' (n + 5) = .inl (0, 5, .inl (x_wf d i)) → s_lo h h' n → s_G TL_began (fun o h1 n1 => o = .inl (some (.int 0)) ∧ n1 = n + 6 ∧ ∃ L, w_In h1 b L) 39 (s_lvs [(0, .ref b), (1, .ref (s_big + 500)), (2, .ref (n + 3)), (3, .ref (n + 5)), (4, .int (nI (i)))]) [] h' (n + 6) 0 0 := by
    intro d hd r
    have hdt := (k_tl d hd).1
    induction r with
    | zero =>
      intro i h' hi hx hw hlo
      obtain rfl : i = 20 := by omega
      have hP : s_pl h' b π := hP0.lo (fun j hj => hlo j (by omega))
      have hb := hP.1
      unfold s_po at hb
      have hn : b + 93 ≤ n + 6 := by omega
      refine g_iload dL_began_39 (by rfl) ?_
      refine g_bipush 20 dL_began_41 (by rfl) ?_
      refine g_icmp_ge (tgt := 92) dL_began_43 (by decide) (fun _ => ?_) (fun c_43 => absurd (by decide) c_43)
      refine g_aload_n dL_began_92 rfl (by rfl) ?_
      refine g_aload_n dL_began_93 rfl (by rfl) ?_
      refine g_iconst 0 dL_began_94 (by rfl) ?_
      refine g_iald dL_began_95 (by exact hw) (by omega) (show (0 : Int32) = nI 0 from rfl) (by omega) (by omega) ?_
      refine g_aload_n dL_began_96 rfl (by rfl) ?_
      refine g_iconst 1 dL_began_97 (by rfl) ?_
      refine g_iald dL_began_98 (by exact hw) (by omega) (show (1 : Int32) = nI 1 from rfl) (by omega) (by omega) ?_
      refine g_aload_n dL_began_99 rfl (by rfl) ?_
      refine g_iconst 2 dL_began_100 (by rfl) ?_
      refine g_iald dL_began_101 (by exact hw) (by omega) (show (2 : Int32) = nI 2 from rfl) (by omega) (by omega) ?_
      refine g_aload_n dL_began_102 rfl (by rfl) ?_
      refine g_iconst 3 dL_began_103 (by rfl) ?_
      refine g_iald dL_began_104 (by exact hw) (by omega) (show (3 : Int32) = nI 3 from rfl) (by omega) (by omega) ?_
      refine g_aload_n dL_began_105 rfl (by rfl) ?_
      refine g_iconst 4 dL_began_106 (by rfl) ?_
      refine g_iald dL_began_107 (by exact hw) (by omega) (show (4 : Int32) = nI 4 from rfl) (by omega) (by omega) ?_
      refine g_callV_p (c_X8_append hP hn (by rw [hL]; omega) _ _ _ _ _) dL_began_108 (mX8_append) rfl lL_142 iX8_append vX8_append (by decide) (by omega) (by exact hb) rfl rfl rfl rfl (Nat.le_of_ble_eq_true rfl) (fun v9 h9 z9 => ?_)
      obtain ⟨rfl, hP, -⟩ := z9
      rw [hL, if_pos (by omega)] at hP
      have hap := x_ap (tx := π.2.2.2.2.2.1) (w := x_wf d 20) (k_by d hd)
      obtain ⟨tx, htx, hP⟩ : ∃ tx : Nat → Int32, (∀ i, i < 20 → tx i = x_td d i) ∧ s_pl h9 b (π.1, π.2.1, π.2.2.1, π.2.2.2.1, π.2.2.2.2.1, tx, 20, π.2.2.2.2.2.2.2) := ⟨_, hap, hP⟩
      clear hap
      have hb := hP.1
      unfold s_po at hb
      refine g_pop dL_began_111 (by rfl) ?_
      refine g_aload_n dL_began_112 rfl (by rfl) ?_
      refine g_callV_p (c_X8_runScript hP hn (by show 20 ≤ 500; omega) hl) dL_began_113 (mX8_runScript) rfl lL_145 iX8_runScript vX8_runScript (by decide) (by omega) (by exact hb) rfl rfl rfl rfl (Nat.le_of_ble_eq_true rfl) (fun v9 h9 z9 => ?_)
      obtain ⟨⟨σ9, rfl, hP⟩, -⟩ := z9
      refine g_ireturn dL_began_116 rfl ?_
      obtain ⟨xb1, xb2⟩ := x_began hd htx σ9
      obtain ⟨c2, p2, okr⟩ := x_run_ok xb1
      have h14r := okr.2.1
      refine ⟨?_, rfl, ?_⟩
      · show _ = Sum.inl (some (Value.int 0))
        have e9 : (if (x_run tx 20 σ9).1 = true then (x_run tx 20 σ9).2.1.2 0 else -1) = 0 := (if_pos xb1).trans xb2
        exact congrArg (fun z => (Sum.inl (some (Value.int z)) : Option Value ⊕ String)) e9
      · unfold pl_run at hP
        rw [if_pos xb1] at hP
        exact ⟨_, _, c2, p2, hP, (d_eq.cpy h14r _ _).sy.ok okr, pl_rem_l hl, rfl⟩
    | succ r ih =>
      intro i h' hi hx hw hlo
      obtain ⟨hx0, hx1⟩ := hx
      refine g_iload dL_began_39 (by rfl) ?_
      refine g_bipush 20 dL_began_41 (by rfl) ?_
      refine g_icmp_ge (tgt := 92) dL_began_43 (by decide) (fun c_43 => absurd c_43 (i_nge (b := 20) (by omega) (by omega))) (fun _ => ?_)
      refine g_aload_n dL_began_46 rfl (by rfl) ?_
      refine g_iload dL_began_47 (by rfl) ?_
      refine g_iconst 4 dL_began_49 (by rfl) ?_
      refine g_idiv dL_began_50 (by decide) ?_
      rw [k_d4 i (by omega)]
      refine g_dup2 dL_began_51 (by rfl) (by rfl) ?_
      refine g_iald dL_began_52 (by exact hw) (by omega) rfl (by omega) (by omega) ?_
      refine g_iload dL_began_53 (by rfl) ?_
      refine g_aload_n dL_began_55 rfl (by rfl) ?_
      refine g_callV_e (c_s_length ⟨hx0, hx1⟩ (by omega) (by omega) (by omega)) dL_began_56 mJ0_length_8abf5 rfl lL_133 iJ0_length_8abf5 vJ0_length_8abf5 (by decide) (by omega) (by exact hx0) rfl rfl rfl rfl (Nat.le_of_ble_eq_true rfl) ?_
      refine g_icmp_ge (tgt := 71) dL_began_59 (by decide) (fun c_59 => ?_) (fun c_59 => ?_)
      · refine g_bipush 32 dL_began_71 (by rfl) ?_
        have hij : ¬ i < x_tl d := fun z => by
          rw [Int32.le_iff_toInt_le, nI_ti (by omega), nI_ti (by omega)] at c_59
          omega
        rw [(k_tf d hd i (by omega)).2 hij]
        refine g_bipush 24 dL_began_73 (by rfl) ?_
        refine g_bipush 8 dL_began_75 (by rfl) ?_
        refine g_iload dL_began_77 (by rfl) ?_
        refine g_iconst 4 dL_began_79 (by rfl) ?_
        refine g_irem dL_began_80 (by decide) ?_
        refine g_imul dL_began_81 ?_
        refine g_isub dL_began_82 ?_
        refine g_ishl dL_began_83 ?_
        refine g_ior dL_began_84 ?_
        refine g_iast' dL_began_85 (by exact hw) (by omega) rfl (by omega) (by omega) (fun h2 e2 => ?_)
        have hw := s_up_at e2
        have hx0 := s_up_off e2 (by omega) hx0
        have hx1 := s_up_off e2 (by omega) hx1
        have hlo := hlo.up e2 (by omega)
        refine g_iinc (nI (i + 1)) dL_began_86 (by rfl) (nI_inc i) ?_
        refine g_goto (tgt := 39) dL_began_89 (by decide) ?_
        exact g_lv (l := [(0, .ref b), (1, .ref (s_big + 500)), (2, .ref (n + 3)), (3, .ref (n + 5)), (4, .int (nI (i + 1)))]) (ih (i + 1) _ (by omega) ⟨hx0, hx1⟩ hw hlo) ⟨by rfl, by rfl, by rfl, by rfl, by rfl, trivial⟩
      · refine g_aload_n dL_began_62 rfl (by rfl) ?_
        refine g_iload dL_began_63 (by rfl) ?_
        have hij : i < x_tl d := Nat.lt_of_not_le fun z => c_59 (i_ge z (by omega))
        obtain ⟨tf1, -⟩ := k_tf d hd i (by omega)
        obtain ⟨tc1, tc2⟩ := k_tc d hd i (by omega)
        refine g_callV_e (c_s_charAt (j := i) ⟨hx0, hx1⟩ (by omega) (by omega) hij (by omega) (by rw [tf1 hij]; exact tc1) (by rw [tf1 hij]; exact tc2)) dL_began_65 mJ0_charAt_5068e rfl lL_138 iJ0_charAt_5068e vJ0_charAt_5068e (by decide) (by omega) (by exact hx0) rfl rfl rfl rfl (Nat.le_of_ble_eq_true rfl) ?_
        rw [tf1 hij]
        refine g_goto (tgt := 73) dL_began_68 (by decide) ?_
        refine g_bipush 24 dL_began_73 (by rfl) ?_
        refine g_bipush 8 dL_began_75 (by rfl) ?_
        refine g_iload dL_began_77 (by rfl) ?_
        refine g_iconst 4 dL_began_79 (by rfl) ?_
        refine g_irem dL_began_80 (by decide) ?_
        refine g_imul dL_began_81 ?_
        refine g_isub dL_began_82 ?_
        refine g_ishl dL_began_83 ?_
        refine g_ior dL_began_84 ?_
        refine g_iast' dL_began_85 (by exact hw) (by omega) rfl (by omega) (by omega) (fun h2 e2 => ?_)
        have hw := s_up_at e2
        have hx0 := s_up_off e2 (by omega) hx0
        have hx1 := s_up_off e2 (by omega) hx1
        have hlo := hlo.up e2 (by omega)
        refine g_iinc (nI (i + 1)) dL_began_86 (by rfl) (nI_inc i) ?_
        refine g_goto (tgt := 39) dL_began_89 (by decide) ?_
        exact g_lv (l := [(0, .ref b), (1, .ref (s_big + 500)), (2, .ref (n + 3)), (3, .ref (n + 5)), (4, .int (nI (i + 1)))]) (ih (i + 1) _ (by omega) ⟨hx0, hx1⟩ hw hlo) ⟨by rfl, by rfl, by rfl, by rfl, by rfl, trivial⟩
  refine s_Mt_of rfl (by decide) (by exact Nat.le_of_ble_eq_true rfl) ?_
  refine g_new' (ci := 8) (C := RJ4) (T9 := TJ4) (N := 4) tyJ4 dL_began_0 rfl wiJ4 tyJ4_ok wk_L_111 wn_J4 wz_J4 zf_J4 zv_J4 (by omega) hcl (s_lvs_vo (l := [(0, .ref b), (1, .ref (s_big + 500))]) (List.forall_mem_cons.mpr ⟨(by first | exact s_vo_r (by omega) | exact Or.inl (by omega) | exact Or.inr (by omega)), List.forall_mem_cons.mpr ⟨(by first | exact s_vo_r (by omega) | exact Or.inl (by omega) | exact Or.inr (by omega)), fun _ z => nomatch z⟩⟩)) (fun _ z => nomatch z) (by omega) (by omega) (fun h1 e1 hcl => ?_)
  have ho := s_up_at e1
  have hlo := (s_lo.rf (d := n)).up e1 (Nat.le_refl _)
  refine g_dup dL_began_3 (by rfl) ?_
  refine g_callIg (rest := [.ref n]) (c_b_init4 ho (by omega) hcl (by omega)) dL_began_4 mJ4_init_da8c8 rfl lL_113 iJ4_init_da8c8 rfl rfl (by decide) rfl rfl (Nat.le_of_ble_eq_true rfl) (by omega) (by omega) (fun E h' n' z => by cases z.1) (s_lvs_vo (l := [(0, .ref b), (1, .ref (s_big + 500))]) (List.forall_mem_cons.mpr ⟨(by first | exact s_vo_r (by omega) | exact Or.inl (by omega) | exact Or.inr (by omega)), List.forall_mem_cons.mpr ⟨(by first | exact s_vo_r (by omega) | exact Or.inl (by omega) | exact Or.inr (by omega)), fun _ z => nomatch z⟩⟩)) (List.forall_mem_cons.mpr ⟨(by first | exact s_vo_r (by omega) | exact Or.inl (by omega) | exact Or.inr (by omega)), (fun _ z => nomatch z)⟩) (fun w9 h9 n9 z9 _ => ?_)
  obtain ⟨z1, rfl, hsb, hcl, hlo2⟩ := z9
  cases z1
  have hlo := hlo.trans hlo2 (by omega)
  refine g_kstr (i := 12) (text := "disk ") (show ("BackupPlannerLaw", 114, "disk ", 12) ∈ s_str by decide) dL_began_7 ?_
  refine g_callVg (rest := []) (c_b_app (i := 12) (by omega) hsb (by omega) (by omega) (by omega) hcl (by omega) (by decide) (by omega)) dL_began_9 mJ4_append_15ec4 rfl lL_116 iJ4_append_15ec4 vJ4_append_15ec4 (by decide) (by omega) (by exact hsb.1) rfl rfl rfl (Nat.le_of_ble_eq_true rfl) (by omega) (by omega) (fun E h' n' z => by cases z.1) (s_lvs_vo (l := [(0, .ref b), (1, .ref (s_big + 500))]) (List.forall_mem_cons.mpr ⟨(by first | exact s_vo_r (by omega) | exact Or.inl (by omega) | exact Or.inr (by omega)), List.forall_mem_cons.mpr ⟨(by first | exact s_vo_r (by omega) | exact Or.inl (by omega) | exact Or.inr (by omega)), fun _ z => nomatch z⟩⟩)) (fun _ z => nomatch z) (fun w9 h9 n9 z9 _ => ?_)
  obtain ⟨z1, rfl, hsb, hcl, hlo2⟩ := z9
  cases z1
  have hlo := hlo.trans hlo2 (by omega)
  refine g_aload_n dL_began_12 rfl (by rfl) ?_
  refine g_iconst 0 dL_began_13 (by rfl) ?_
  refine g_iconst 0 dL_began_14 (by rfl) ?_
  refine g_bipush 80 dL_began_15 (by rfl) ?_
  refine g_callS_p (c_L_of (j := 0) (by omega) (Or.inr rfl)) dL_began_17 mL_of rfl lL_120 sL_of (by decide) rfl rfl (Nat.le_of_ble_eq_true rfl) (fun v9 h9 z9 => ?_)
  obtain ⟨e9, d, hd, rfl⟩ := z9
  obtain rfl := e9.symm
  have hdl := x_dl_le d
  refine g_callVg (rest := []) (c_b_appi hd hsb (by omega) (by omega) (by omega) hcl (by omega) (by decide) (by omega)) dL_began_20 mJ4_append_bf812 rfl lL_124 iJ4_append_bf812 vJ4_append_bf812 (by decide) (by omega) (by exact hsb.1) rfl rfl rfl (Nat.le_of_ble_eq_true rfl) (by omega) (by omega) (fun E h' n' z => by cases z.1) (s_lvs_vo (l := [(0, .ref b), (1, .ref (s_big + 500))]) (List.forall_mem_cons.mpr ⟨(by first | exact s_vo_r (by omega) | exact Or.inl (by omega) | exact Or.inr (by omega)), List.forall_mem_cons.mpr ⟨(by first | exact s_vo_r (by omega) | exact Or.inl (by omega) | exact Or.inr (by omega)), fun _ z => nomatch z⟩⟩)) (fun _ z => nomatch z) (fun w9 h9 n9 z9 _ => ?_)
  obtain ⟨z1, rfl, hsb, hcl, hlo2⟩ := z9
  cases z1
  have hlo := hlo.trans hlo2 (by omega)
  refine g_kstr (i := 13) (text := ";           ") (show ("BackupPlannerLaw", 127, ";           ", 13) ∈ s_str by decide) dL_began_23 ?_
  refine g_callVg (rest := []) (c_b_appg (i := 13) (by omega) hsb (by omega) (by omega) (by omega) hcl (by omega) (k_f2 d hd) (k_tl d hd).2 (show x_tl d ≤ 34 by have := (k_tl d hd).1; omega)) dL_began_25 mJ4_append_15ec4 rfl lL_116 iJ4_append_15ec4 vJ4_append_15ec4 (by decide) (by omega) (by exact hsb.1) rfl rfl rfl (Nat.le_of_ble_eq_true rfl) (by omega) (by omega) (fun E h' n' z => by cases z.1) (s_lvs_vo (l := [(0, .ref b), (1, .ref (s_big + 500))]) (List.forall_mem_cons.mpr ⟨(by first | exact s_vo_r (by omega) | exact Or.inl (by omega) | exact Or.inr (by omega)), List.forall_mem_cons.mpr ⟨(by first | exact s_vo_r (by omega) | exact Or.inl (by omega) | exact Or.inr (by omega)), fun _ z => nomatch z⟩⟩)) (fun _ z => nomatch z) (fun w9 h9 n9 z9 _ => ?_)
  obtain ⟨z1, rfl, hsb, hcl, hlo2⟩ := z9
  cases z1
  have hlo := hlo.trans hlo2 (by omega)
  refine g_callVg (rest := []) (c_b_str (c := x_tl d) (f := x_t3 d) hsb (by omega) (by omega) hcl (by omega) (by have := (k_tl d hd).1; omega) (fun i hi => k_f3 d hd i (by have := (k_tl d hd).1; omega))) dL_began_28 mJ4_toString_0e30d rfl lL_129 iJ4_toString_0e30d vJ4_toString_0e30d (by decide) (by omega) (by exact hsb.1) rfl rfl rfl (Nat.le_of_ble_eq_true rfl) (by omega) (by omega) (fun E h' n' z => by cases z.1) (s_lvs_vo (l := [(0, .ref b), (1, .ref (s_big + 500))]) (List.forall_mem_cons.mpr ⟨(by first | exact s_vo_r (by omega) | exact Or.inl (by omega) | exact Or.inr (by omega)), List.forall_mem_cons.mpr ⟨(by first | exact s_vo_r (by omega) | exact Or.inl (by omega) | exact Or.inr (by omega)), fun _ z => nomatch z⟩⟩)) (fun _ z => nomatch z) (fun w9 h9 n9 z9 _ => ?_)
  obtain ⟨z1, rfl, hx, hcl, hlo2⟩ := z9
  cases z1
  have hlo := hlo.trans hlo2 (by omega)
  refine g_astore_n dL_began_31 rfl (by decide) ?_
  refine g_lv (l := [(0, .ref b), (1, .ref (s_big + 500)), (2, .ref (n + 3))]) ?_ ⟨by rfl, by rfl, by rfl, trivial⟩
  refine g_iconst 5 dL_began_32 (by rfl) ?_
  refine g_newaI (N' := 5) dL_began_33 wa_I rfl (by omega) (by omega) hcl (s_lvs_vo (l := [(0, .ref b), (1, .ref (s_big + 500)), (2, .ref (n + 3))]) (List.forall_mem_cons.mpr ⟨(by first | exact s_vo_r (by omega) | exact Or.inl (by omega) | exact Or.inr (by omega)), List.forall_mem_cons.mpr ⟨(by first | exact s_vo_r (by omega) | exact Or.inl (by omega) | exact Or.inr (by omega)), List.forall_mem_cons.mpr ⟨(by first | exact s_vo_r (by omega) | exact Or.inl (by omega) | exact Or.inr (by omega)), fun _ z => nomatch z⟩⟩⟩)) (fun _ z => nomatch z) (by omega) (by omega) (fun h1 e1 hcl => ?_)
  have hx0 := s_up_off e1 (by omega) hx.1
  have hx1 := s_up_off e1 (by omega) hx.2
  have hw := s_up_at e1
  have hlo := hlo.up e1 (by omega)
  refine g_astore_n dL_began_35 rfl (by decide) ?_
  refine g_lv (l := [(0, .ref b), (1, .ref (s_big + 500)), (2, .ref (n + 3)), (3, .ref (n + 5))]) ?_ ⟨by rfl, by rfl, by rfl, by rfl, trivial⟩
  refine g_iconst 0 dL_began_36 (by rfl) ?_
  refine g_istore dL_began_37 (by decide) ?_
  exact g_sub (g_lv (l := [(0, .ref b), (1, .ref (s_big + 500)), (2, .ref (n + 3)), (3, .ref (n + 5)), (4, .int (nI (0)))]) (loop d hd 20 0 _ (by omega) ⟨hx0, hx1⟩ hw hlo) ⟨by rfl, by rfl, by rfl, by rfl, by rfl, trivial⟩) (fun _ _ z => z) (by omega) (by omega)
