/-! THE COMPONENT: reports -/
def pl_L (π : s_Pl) (L : List Int32) : s_Pl := (π.1, π.2.1, π.2.2.1, π.2.2.2.1, π.2.2.2.2.1, π.2.2.2.2.2.1, π.2.2.2.2.2.2.1, π.2.2.2.2.2.2.2.1, π.2.2.2.2.2.2.2.2.1, L)
def w_pr (L : List Int32) (a b : Nat) : List Int32 := L ++ (if L.length = 0 then [] else [32]) ++ p_dg a 7 ++ [58] ++ p_dg b 7
def w_s (st : Int32) (L : List Int32) : List Int32 := if st = 1 then L ++ [33] else if st = 2 then L ++ [45] else L
def w_it (σ : s_D) (pl : Int32) : Nat → List Int32
  | 0 => []
  | i + 1 => if s_bit pl (nI i) = 0 then w_s (σ.1 3 i) (w_pr (w_it σ pl i) (σ.1 0 i).toNatClampNeg (d_wt σ i).toNatClampNeg) else w_s (σ.1 3 i) (w_pr (w_it σ pl i) (σ.1 0 i).toNatClampNeg (d_wt σ i).toNatClampNeg) ++ [42]
theorem w_pr_len (L : List Int32) (a b : Nat) : (w_pr L a b).length ≤ L.length + 16 := by
  have h1 := p_dg_len a 7
  have h2 := p_dg_len b 7
  unfold w_pr
  split <;> simp <;> omega
theorem w_s_len (st : Int32) (L : List Int32) : (w_s st L).length ≤ L.length + 1 := by
  unfold w_s
  split
  · simp
  · split <;> simp
theorem w_it_len {σ : s_D} {pl : Int32} : ∀ i, (w_it σ pl i).length ≤ 24 * i
  | 0 => Nat.le_refl _
  | i + 1 => by
    have ih := w_it_len (σ := σ) (pl := pl) i
    have h1 := w_pr_len (w_it σ pl i) (σ.1 0 i).toNatClampNeg (d_wt σ i).toNatClampNeg
    have h2 := w_s_len (σ.1 3 i) (w_pr (w_it σ pl i) (σ.1 0 i).toNatClampNeg (d_wt σ i).toNatClampNeg)
    unfold w_it
    split
    · omega
    · rw [List.length_append]; simp; omega
theorem d_wt_ok {σ : s_D} {cnt cp i : Nat} (ok : d_ok σ cnt cp) (hi : i < cnt) : ∃ w, d_wt σ i = nI w ∧ w ≤ 9990 := by
  obtain ⟨-, ⟨v, e1, h1⟩, ⟨a, e2, h2⟩, -⟩ := ok.2.2.2.2 i hi
  refine ⟨v * (1 + a), ?_, Nat.mul_le_mul h1 (show 1 + a ≤ 10 by omega)⟩
  unfold d_wt
  rw [e1, e2, show (1 : Int32) = nI 1 from rfl, nI_add, nI_mul]
theorem p_dg_cut {v k : Nat} (hv : v < 10 ^ k) (hk : 1 ≤ k) : ∀ j, p_dg v (k + j) = p_dg v k
  | 0 => rfl
  | j + 1 => by
    have h1 : 10 ^ k ≤ 10 ^ (k + j) := Nat.pow_le_pow_right (by omega) (by omega)
    rw [show k + (j + 1) = k + j + 1 from rfl, p_dg_n (by omega), p_dg_cut hv hk j]
/-- a row of the table, as a report -/
def w_rw (f : Nat → Int32) : Nat → List Int32
  | 0 => []
  | c + 1 => if c = 0 ∨ f (c - 1) < f c then w_pr (w_rw f c) c (f c).toNatClampNeg else w_rw f c
theorem w_rw_len {f : Nat → Int32} (hf : ∀ c, c ≤ 100 → ∃ v, f c = nI v ∧ v < 1000000) : ∀ c, c ≤ 101 → (w_rw f c).length ≤ 11 * c
  | 0, _ => Nat.le_refl _
  | c + 1, h => by
    have ih := w_rw_len hf c (by omega)
    obtain ⟨v, e, hv⟩ := hf c (by omega)
    have h1 := p_dg_len c 3
    have h2 := p_dg_len v 6
    have e1 : p_dg c 7 = p_dg c 3 := p_dg_cut (k := 3) (by omega) (by omega) 4
    have e2 : p_dg v 7 = p_dg v 6 := p_dg_cut (k := 6) (by omega) (by omega) 1
    unfold w_rw
    split
    · unfold w_pr
      rw [e, nI_clamp (by omega), e1, e2]
      split <;> simp <;> omega
    · omega

theorem c_X8_writeItems {h : s_H} {n b : Nat} {π : s_Pl} (hP : s_pl h b π) (hn : b + 93 ≤ n) {cnt cp : Nat} (ok : d_ok π.1 cnt cp) : s_Mt TX8_writeItems 0 0 [.ref b] h n (s_rp n (fun v9 h1 => v9 = some (.int (nI (w_it π.1 (r_se (u_best π.1 cnt cp)) cnt).length)) ∧ s_pl h1 b (pl_L π (w_it π.1 (r_se (u_best π.1 cnt cp)) cnt)) ∧ s_off h h1 b (b + 93)) s_no) := by
  obtain ⟨hb, hD, hS, ⟨σt, hDt⟩, ⟨pm, hH⟩, hT, ⟨go, gl, hG, hgl, hgo⟩, ⟨nx, tk, ts, ex, hsc⟩, hR⟩ := id hP
  obtain ⟨τ, hTt, hT0⟩ := id hT
  unfold s_po at hb
  have hd := hD.1
  have hs := hsc.1
  have hk := hH.1
  have ht := hTt.1
  have hg := hG.1
  have hr := hR.1
  have htd := hDt.1
  have hsd := hS.1
  have q1 := hD.2.1
  have q2 := hD.2.2.1
  have q3 := hD.2.2.2.1
  have q4 := hD.2.2.2.2
  have u1 := hDt.2.1
  have u2 := hDt.2.2.1
  have u3 := hDt.2.2.2.1
  have u4 := hDt.2.2.2.2
  rw [ok.1, ok.2.2.1] at hd
  have hoff : s_off h h b (b + 93) := s_off.rf
  refine s_Mt_of rfl (by decide) (by exact Nat.le_of_ble_eq_true rfl) ?_
  refine g_aload_n dX8_writeItems_0 rfl (by rfl) ?_
  refine g_aload_n dX8_writeItems_1 rfl (by rfl) ?_
  refine g_getf dX8_writeItems_2 fX8_12 (by exact hb) (by omega) (by rfl) ?_
  refine g_callV_p (c_X8_bestRank hP hn hD ok (by omega)) dX8_writeItems_5 (mX8_bestRank) rfl lX8_121 iX8_bestRank vX8_bestRank (by decide) (by omega) (by exact hb) rfl rfl rfl rfl (Nat.le_of_ble_eq_true rfl) (fun v9 h9 z9 => ?_)
  obtain ⟨rfl, ⟨τ9, hz9, qtab⟩, qoff⟩ := z9
  have hP := hP.tab qoff (u_t0 qtab hz9)
  have hoff := hoff.trans (qoff.wide (a := _) (b := _) (a' := b) (b' := b + 93) (by omega) (by omega))
  obtain ⟨hb, hD, hS, ⟨σt, hDt⟩, ⟨pm, hH⟩, hT, ⟨go, gl, hG, hgl, hgo⟩, ⟨nx, tk, ts, ex, hsc⟩, hR⟩ := id hP
  obtain ⟨τ, hTt, hT0⟩ := id hT
  unfold s_po at hb
  have hd := hD.1
  have hs := hsc.1
  have hk := hH.1
  have ht := hTt.1
  have hg := hG.1
  have hr := hR.1
  have htd := hDt.1
  have hsd := hS.1
  have q1 := hD.2.1
  have q2 := hD.2.2.1
  have q3 := hD.2.2.2.1
  have q4 := hD.2.2.2.2
  have u1 := hDt.2.1
  have u2 := hDt.2.2.1
  have u3 := hDt.2.2.2.1
  have u4 := hDt.2.2.2.2
  rw [ok.1, ok.2.2.1] at hd
  refine g_callS_e (c_X8_rankSetOrEmpty _) dX8_writeItems_8 (mX8_rankSetOrEmpty) rfl lX8_198 sX8_rankSetOrEmpty (by decide) rfl rfl (Nat.le_of_ble_eq_true rfl) ?_
  refine g_istore_n dX8_writeItems_11 rfl (by decide) ?_
  refine g_aload_n dX8_writeItems_12 rfl (by rfl) ?_
  refine g_getf dX8_writeItems_13 fX8_57 (by exact hb) (by omega) (by rfl) ?_
  refine g_iconst 0 dX8_writeItems_16 (by rfl) ?_
  refine g_putf' dX8_writeItems_17 pX8_262 (by exact hr) (by omega) (by exact Nat.le_of_ble_eq_true rfl) (by rfl) (by rfl) (fun h1 e1 => ?_)
  first | have hb_1 := s_up_off e1 (by omega) hb | have hb_1 := s_up_at e1
  first | have hd_1 := s_up_off e1 (by omega) hd | have hd_1 := s_up_at e1
  first | have htd_1 := s_up_off e1 (by omega) htd | have htd_1 := s_up_at e1
  first | have hsd_1 := s_up_off e1 (by omega) hsd | have hsd_1 := s_up_at e1
  first | have hs_1 := s_up_off e1 (by omega) hs | have hs_1 := s_up_at e1
  first | have hk_1 := s_up_off e1 (by omega) hk | have hk_1 := s_up_at e1
  first | have ht_1 := s_up_off e1 (by omega) ht | have ht_1 := s_up_at e1
  first | have hg_1 := s_up_off e1 (by omega) hg | have hg_1 := s_up_at e1
  first | have hr_1 := s_up_off e1 (by omega) hr | have hr_1 := s_up_at e1
  first | have q1_1 := s_up_off e1 (by omega) q1 | have q1_1 := s_up_at e1
  first | have q2_1 := s_up_off e1 (by omega) q2 | have q2_1 := s_up_at e1
  first | have q3_1 := s_up_off e1 (by omega) q3 | have q3_1 := s_up_at e1
  first | have q4_1 := s_up_off e1 (by omega) q4 | have q4_1 := s_up_at e1
  first | have u1_1 := s_up_off e1 (by omega) u1 | have u1_1 := s_up_at e1
  first | have u2_1 := s_up_off e1 (by omega) u2 | have u2_1 := s_up_at e1
  first | have u3_1 := s_up_off e1 (by omega) u3 | have u3_1 := s_up_at e1
  first | have u4_1 := s_up_off e1 (by omega) u4 | have u4_1 := s_up_at e1
  have qoff : s_off h9 h1 (b + 91) (b + 93) := s_off.rf.up e1 (by omega)
  have qr : s_rep h1 (b + 91) [] := ⟨hr_1, Nat.zero_le _, hR.2.2.elim (fun f q => ⟨f, s_up_off e1 (by omega) q.1, fun q hq => absurd hq (Nat.not_lt_zero q)⟩)⟩
  have hP : s_pl h1 b (pl_L π []) := hP.rep qoff qr
  have hoff := hoff.trans (qoff.wide (a := _) (b := _) (a' := b) (b' := b + 93) (by omega) (by omega))
  refine g_iconst 0 dX8_writeItems_20 (by rfl) ?_
  refine g_istore_n dX8_writeItems_21 rfl (by decide) ?_
  have hi14 := ok.2.1
  obtain ⟨pl, hpl⟩ : ∃ pl, pl = r_se (u_best π.1 cnt cp) := ⟨_, rfl⟩
  rw [← hpl]
  have loop : ∀ (r i : Nat) (h' : s_H), i + r = cnt → s_pl h' b (pl_L π (w_it π.1 pl i)) → s_off h h' b (b + 93) → s_G TX8_writeItems (s_rp n (fun v9 h1 => v9 = some (.int (nI (w_it π.1 pl cnt).length)) ∧ s_pl h1 b (pl_L π (w_it π.1 pl cnt)) ∧ s_off h h1 b (b + 93)) s_no) 22 (s_lvs [(0, .ref b), (1, .int pl), (2, .int (nI i))]) [] h' n 0 0 := by
    intro r
    induction r with
    | zero =>
      intro i h' hk hP hoff
      obtain rfl : i = cnt := by omega
      obtain ⟨hb, hD, hS, ⟨σt, hDt⟩, ⟨pm, hH⟩, hT, ⟨go, gl, hG, hgl, hgo⟩, ⟨nx, tk, ts, ex, hsc⟩, hR⟩ := id hP
      obtain ⟨τ, hTt, hT0⟩ := id hT
      unfold s_po at hb
      have hd := hD.1
      have hs := hsc.1
      have hk := hH.1
      have ht := hTt.1
      have hg := hG.1
      have hr := hR.1
      have htd := hDt.1
      have hsd := hS.1
      have q1 := hD.2.1
      have q2 := hD.2.2.1
      have q3 := hD.2.2.2.1
      have q4 := hD.2.2.2.2
      have u1 := hDt.2.1
      have u2 := hDt.2.2.1
      have u3 := hDt.2.2.2.1
      have u4 := hDt.2.2.2.2
      have hD : s_disk _ (b + 1) π.1 := hD
      have hd := ok.hd hD
      have q1 := hD.2.1
      have q2 := hD.2.2.1
      have q3 := hD.2.2.2.1
      have q4 := hD.2.2.2.2
      have hR : s_rep _ (b + 91) (w_it π.1 pl i) := hR
      have hr := hR.1
      refine g_iload_n dX8_writeItems_22 rfl (by rfl) ?_
      refine g_aload_n dX8_writeItems_23 rfl (by rfl) ?_
      refine g_getf dX8_writeItems_24 fX8_12 (by exact hb) (by omega) (by rfl) ?_
      refine g_getf dX8_writeItems_27 fX8_99 (by first | exact hd | exact htd | exact hsd) (by omega) (by rfl) ?_
      refine g_icmp_ge (tgt := 127) dX8_writeItems_30 (by decide) (fun _ => ?_) (fun c_30 => absurd (nI_le (Nat.le_refl _) (by omega)) c_30)
      refine g_aload_n dX8_writeItems_127 rfl (by rfl) ?_
      refine g_getf dX8_writeItems_128 fX8_57 (by exact hb) (by omega) (by rfl) ?_
      refine g_getf dX8_writeItems_131 fX8_262 (by exact hr) (by omega) (by rfl) ?_
      refine g_ireturn dX8_writeItems_134 rfl ?_
      exact ⟨rfl, rfl, hP, hoff⟩
    | succ r ih =>
      intro i h' hk hP hoff
      have fin : ∀ (h' : s_H) (L2 : List Int32), L2 = w_s (π.1.1 3 i) (w_pr (w_it π.1 pl i) (π.1.1 0 i).toNatClampNeg (d_wt π.1 i).toNatClampNeg) → s_pl h' b (pl_L π L2) → s_off h h' b (b + 93) → s_G TX8_writeItems (s_rp n (fun v9 h1 => v9 = some (.int (nI (w_it π.1 pl cnt).length)) ∧ s_pl h1 b (pl_L π (w_it π.1 pl cnt)) ∧ s_off h h1 b (b + 93)) s_no) 104 (s_lvs [(0, .ref b), (1, .int pl), (2, .int (nI i))]) [] h' n 0 0 := by
        intro h' L2 hL2 hP hoff
        have hl2 : L2.length ≤ 24 * i + 17 := by
          rw [hL2]
          exact Nat.le_trans (w_s_len _ _) (Nat.succ_le_succ (Nat.le_trans (w_pr_len _ _ _) (Nat.add_le_add_right (w_it_len i) 16)))
        obtain ⟨hb, hD, hS, ⟨σt, hDt⟩, ⟨pm, hH⟩, hT, ⟨go, gl, hG, hgl, hgo⟩, ⟨nx, tk, ts, ex, hsc⟩, hR⟩ := id hP
        obtain ⟨τ, hTt, hT0⟩ := id hT
        unfold s_po at hb
        have hd := hD.1
        have hs := hsc.1
        have hk := hH.1
        have ht := hTt.1
        have hg := hG.1
        have hr := hR.1
        have htd := hDt.1
        have hsd := hS.1
        have q1 := hD.2.1
        have q2 := hD.2.2.1
        have q3 := hD.2.2.2.1
        have q4 := hD.2.2.2.2
        have u1 := hDt.2.1
        have u2 := hDt.2.2.1
        have u3 := hDt.2.2.2.1
        have u4 := hDt.2.2.2.2
        have hD : s_disk _ (b + 1) π.1 := hD
        have hd := ok.hd hD
        have q1 := hD.2.1
        have q2 := hD.2.2.1
        have q3 := hD.2.2.2.1
        have q4 := hD.2.2.2.2
        have hR : s_rep _ (b + 91) L2 := hR
        have hr := hR.1
        refine g_iload_n dX8_writeItems_104 rfl (by rfl) ?_
        refine g_iload_n dX8_writeItems_105 rfl (by rfl) ?_
        refine g_callS_e (c_X8_contains _ _) dX8_writeItems_106 (mX8_contains) rfl lX8_201 sX8_contains (by decide) rfl rfl (Nat.le_of_ble_eq_true rfl) ?_
        refine g_if_eq (tgt := 121) dX8_writeItems_109 (by decide) (fun c_109 => ?_) (fun c_109 => ?_)
        · have hb0 := s_ite01.mp c_109
          have hLn : w_it π.1 pl (i + 1) = L2 := by rw [hL2]; simp only [w_it, if_pos hb0]
          refine g_iinc (nI (i + 1)) dX8_writeItems_121 (by rfl) (nI_inc i) ?_
          refine g_goto (tgt := 22) dX8_writeItems_124 (by decide) ?_
          exact g_lv (ih (i + 1) _ (by omega) (by rw [hLn]; exact hP) hoff) ⟨rfl, rfl, rfl, trivial⟩
        · have hb0 := fun z => c_109 (s_ite01.mpr z)
          have hLn : w_it π.1 pl (i + 1) = L2 ++ [42] := by rw [hL2]; simp only [w_it, if_neg hb0]
          refine g_aload_n dX8_writeItems_112 rfl (by rfl) ?_
          refine g_getf dX8_writeItems_113 fX8_57 (by exact hb) (by omega) (by rfl) ?_
          refine g_bipush 42 dX8_writeItems_116 (by rfl) ?_
          refine g_callV_p (c_X5_put hR (by omega) (by omega) _) dX8_writeItems_118 (mX5_put) rfl lX8_266 iX5_put vX5_put (by decide) (by omega) (by exact hr) rfl rfl rfl rfl (Nat.le_of_ble_eq_true rfl) (fun v9 h9 z9 => ?_)
          obtain ⟨rfl, qr, qoff⟩ := z9
          rw [show p_by 42 = 42 from rfl] at qr
          have hP : s_pl h9 b (pl_L π (L2 ++ [42])) := hP.rep qoff qr
          have hoff := hoff.trans (qoff.wide (a := _) (b := _) (a' := b) (b' := b + 93) (by omega) (by omega))
          refine g_iinc (nI (i + 1)) dX8_writeItems_121 (by rfl) (nI_inc i) ?_
          refine g_goto (tgt := 22) dX8_writeItems_124 (by decide) ?_
          exact g_lv (ih (i + 1) _ (by omega) (by rw [hLn]; exact hP) hoff) ⟨rfl, rfl, rfl, trivial⟩
      obtain ⟨⟨s, hs0, -, hs60⟩, -⟩ := ok.2.2.2.2 i (by omega)
      obtain ⟨w, hw0, hw9⟩ := d_wt_ok ok (i := i) (by omega)
      obtain ⟨hb, hD, hS, ⟨σt, hDt⟩, ⟨pm, hH⟩, hT, ⟨go, gl, hG, hgl, hgo⟩, ⟨nx, tk, ts, ex, hsc⟩, hR⟩ := id hP
      obtain ⟨τ, hTt, hT0⟩ := id hT
      unfold s_po at hb
      have hd := hD.1
      have hs := hsc.1
      have hk := hH.1
      have ht := hTt.1
      have hg := hG.1
      have hr := hR.1
      have htd := hDt.1
      have hsd := hS.1
      have q1 := hD.2.1
      have q2 := hD.2.2.1
      have q3 := hD.2.2.2.1
      have q4 := hD.2.2.2.2
      have u1 := hDt.2.1
      have u2 := hDt.2.2.1
      have u3 := hDt.2.2.2.1
      have u4 := hDt.2.2.2.2
      have hD : s_disk _ (b + 1) π.1 := hD
      have hd := ok.hd hD
      have q1 := hD.2.1
      have q2 := hD.2.2.1
      have q3 := hD.2.2.2.1
      have q4 := hD.2.2.2.2
      have hR : s_rep _ (b + 91) (w_it π.1 pl i) := hR
      have hr := hR.1
      refine g_iload_n dX8_writeItems_22 rfl (by rfl) ?_
      refine g_aload_n dX8_writeItems_23 rfl (by rfl) ?_
      refine g_getf dX8_writeItems_24 fX8_12 (by exact hb) (by omega) (by rfl) ?_
      refine g_getf dX8_writeItems_27 fX8_99 (by first | exact hd | exact htd | exact hsd) (by omega) (by rfl) ?_
      refine g_icmp_ge (tgt := 127) dX8_writeItems_30 (by decide) (fun c_30 => absurd c_30 (nI_ge (by omega) (by omega))) (fun _ => ?_)
      refine g_aload_n dX8_writeItems_33 rfl (by rfl) ?_
      refine g_getf dX8_writeItems_34 fX8_57 (by exact hb) (by omega) (by rfl) ?_
      refine g_aload_n dX8_writeItems_37 rfl (by rfl) ?_
      refine g_getf dX8_writeItems_38 fX8_12 (by exact hb) (by omega) (by rfl) ?_
      refine g_getf dX8_writeItems_41 fX8_108 (by first | exact hd | exact htd | exact hsd) (by omega) (by rfl) ?_
      refine g_iload_n dX8_writeItems_44 rfl (by rfl) ?_
      refine g_iald dX8_writeItems_45 (by first | exact q1 | exact q2 | exact q3 | exact q4 | exact u1 | exact u2 | exact u3 | exact u4) (by omega) (by rfl) (by omega) (by omega) ?_
      rw [hs0]
      refine g_aload_n dX8_writeItems_46 rfl (by rfl) ?_
      refine g_getf dX8_writeItems_47 fX8_12 (by exact hb) (by omega) (by rfl) ?_
      refine g_iload_n dX8_writeItems_50 rfl (by rfl) ?_
      refine g_callV_e (c_X2_weightOf hD (by omega) (by omega)) dX8_writeItems_51 (mX2_weightOf) rfl lX8_173 iX2_weightOf vX2_weightOf (by decide) (by omega) (by first | exact hd | exact htd | exact hsd) rfl rfl rfl rfl (Nat.le_of_ble_eq_true rfl) ?_
      rw [hw0]
      refine g_callV_p (c_X5_putPair (a := s) (b := w) hR (by omega) (by have := w_it_len (σ := π.1) (pl := pl) i; omega) (by omega) (by omega)) dX8_writeItems_54 (mX5_putPair) rfl lX8_263 iX5_putPair vX5_putPair (by decide) (by omega) (by exact hr) rfl rfl rfl rfl (Nat.le_of_ble_eq_true rfl) (fun v9 h9 z9 => ?_)
      obtain ⟨rfl, qr, qoff⟩ := z9
      have hP : s_pl h9 b (pl_L π (w_pr (w_it π.1 pl i) (π.1.1 0 i).toNatClampNeg (d_wt π.1 i).toNatClampNeg)) := by
        have hP9 := hP.rep qoff qr
        rw [hs0, hw0, nI_clamp (by omega), nI_clamp (by omega)]
        exact hP9
      have hoff := hoff.trans (qoff.wide (a := _) (b := _) (a' := b) (b' := b + 93) (by omega) (by omega))
      have hlp : (w_pr (w_it π.1 pl i) (π.1.1 0 i).toNatClampNeg (d_wt π.1 i).toNatClampNeg).length ≤ 24 * i + 16 := Nat.le_trans (w_pr_len _ _ _) (Nat.add_le_add_right (w_it_len i) 16)
      obtain ⟨hb, hD, hS, ⟨σt, hDt⟩, ⟨pm, hH⟩, hT, ⟨go, gl, hG, hgl, hgo⟩, ⟨nx, tk, ts, ex, hsc⟩, hR⟩ := id hP
      obtain ⟨τ, hTt, hT0⟩ := id hT
      unfold s_po at hb
      have hd := hD.1
      have hs := hsc.1
      have hk := hH.1
      have ht := hTt.1
      have hg := hG.1
      have hr := hR.1
      have htd := hDt.1
      have hsd := hS.1
      have q1 := hD.2.1
      have q2 := hD.2.2.1
      have q3 := hD.2.2.2.1
      have q4 := hD.2.2.2.2
      have u1 := hDt.2.1
      have u2 := hDt.2.2.1
      have u3 := hDt.2.2.2.1
      have u4 := hDt.2.2.2.2
      have hD : s_disk _ (b + 1) π.1 := hD
      have hd := ok.hd hD
      have q1 := hD.2.1
      have q2 := hD.2.2.1
      have q3 := hD.2.2.2.1
      have q4 := hD.2.2.2.2
      have hR : s_rep _ (b + 91) (w_pr (w_it π.1 pl i) (π.1.1 0 i).toNatClampNeg (d_wt π.1 i).toNatClampNeg) := hR
      have hr := hR.1
      refine g_aload_n dX8_writeItems_57 rfl (by rfl) ?_
      refine g_getf dX8_writeItems_58 fX8_12 (by exact hb) (by omega) (by rfl) ?_
      refine g_getf dX8_writeItems_61 fX8_69 (by first | exact hd | exact htd | exact hsd) (by omega) (by rfl) ?_
      refine g_iload_n dX8_writeItems_64 rfl (by rfl) ?_
      refine g_iald dX8_writeItems_65 (by first | exact q1 | exact q2 | exact q3 | exact q4 | exact u1 | exact u2 | exact u3 | exact u4) (by omega) (by rfl) (by omega) (by omega) ?_
      refine g_iconst 1 dX8_writeItems_66 (by rfl) ?_
      refine g_icmp_ne (tgt := 82) dX8_writeItems_67 (by decide) (fun c_67 => ?_) (fun c_67 => ?_)
      · have hst1 := c_67
        refine g_aload_n dX8_writeItems_82 rfl (by rfl) ?_
        refine g_getf dX8_writeItems_83 fX8_12 (by exact hb) (by omega) (by rfl) ?_
        refine g_getf dX8_writeItems_86 fX8_69 (by first | exact hd | exact htd | exact hsd) (by omega) (by rfl) ?_
        refine g_iload_n dX8_writeItems_89 rfl (by rfl) ?_
        refine g_iald dX8_writeItems_90 (by first | exact q1 | exact q2 | exact q3 | exact q4 | exact u1 | exact u2 | exact u3 | exact u4) (by omega) (by rfl) (by omega) (by omega) ?_
        refine g_iconst 2 dX8_writeItems_91 (by rfl) ?_
        refine g_icmp_ne (tgt := 104) dX8_writeItems_92 (by decide) (fun c_92 => ?_) (fun c_92 => ?_)
        · have hL2 : w_s (π.1.1 3 i) (w_pr (w_it π.1 pl i) (π.1.1 0 i).toNatClampNeg (d_wt π.1 i).toNatClampNeg) = (w_pr (w_it π.1 pl i) (π.1.1 0 i).toNatClampNeg (d_wt π.1 i).toNatClampNeg) := (if_neg c_67).trans (if_neg c_92)
          exact g_lv (fin _ _ hL2.symm hP hoff) ⟨rfl, rfl, rfl, trivial⟩
        · have hL2 : w_s (π.1.1 3 i) (w_pr (w_it π.1 pl i) (π.1.1 0 i).toNatClampNeg (d_wt π.1 i).toNatClampNeg) = (w_pr (w_it π.1 pl i) (π.1.1 0 i).toNatClampNeg (d_wt π.1 i).toNatClampNeg) ++ [45] := (if_neg c_67).trans (if_pos c_92)
          refine g_aload_n dX8_writeItems_95 rfl (by rfl) ?_
          refine g_getf dX8_writeItems_96 fX8_57 (by exact hb) (by omega) (by rfl) ?_
          refine g_bipush 45 dX8_writeItems_99 (by rfl) ?_
          refine g_callV_p (c_X5_put hR (by omega) (by omega) _) dX8_writeItems_101 (mX5_put) rfl lX8_266 iX5_put vX5_put (by decide) (by omega) (by exact hr) rfl rfl rfl rfl (Nat.le_of_ble_eq_true rfl) (fun v9 h9 z9 => ?_)
          obtain ⟨rfl, qr, qoff⟩ := z9
          rw [show p_by 45 = 45 from rfl] at qr
          have hP : s_pl h9 b (pl_L π ((w_pr (w_it π.1 pl i) (π.1.1 0 i).toNatClampNeg (d_wt π.1 i).toNatClampNeg) ++ [45])) := hP.rep qoff qr
          have hoff := hoff.trans (qoff.wide (a := _) (b := _) (a' := b) (b' := b + 93) (by omega) (by omega))
          exact g_lv (fin _ _ hL2.symm hP hoff) ⟨rfl, rfl, rfl, trivial⟩
      · have hL2 : w_s (π.1.1 3 i) (w_pr (w_it π.1 pl i) (π.1.1 0 i).toNatClampNeg (d_wt π.1 i).toNatClampNeg) = (w_pr (w_it π.1 pl i) (π.1.1 0 i).toNatClampNeg (d_wt π.1 i).toNatClampNeg) ++ [33] := if_pos c_67
        refine g_aload_n dX8_writeItems_70 rfl (by rfl) ?_
        refine g_getf dX8_writeItems_71 fX8_57 (by exact hb) (by omega) (by rfl) ?_
        refine g_bipush 33 dX8_writeItems_74 (by rfl) ?_
        refine g_callV_p (c_X5_put hR (by omega) (by omega) _) dX8_writeItems_76 (mX5_put) rfl lX8_266 iX5_put vX5_put (by decide) (by omega) (by exact hr) rfl rfl rfl rfl (Nat.le_of_ble_eq_true rfl) (fun v9 h9 z9 => ?_)
        obtain ⟨rfl, qr, qoff⟩ := z9
        rw [show p_by 33 = 33 from rfl] at qr
        have hP : s_pl h9 b (pl_L π ((w_pr (w_it π.1 pl i) (π.1.1 0 i).toNatClampNeg (d_wt π.1 i).toNatClampNeg) ++ [33])) := hP.rep qoff qr
        have hoff := hoff.trans (qoff.wide (a := _) (b := _) (a' := b) (b' := b + 93) (by omega) (by omega))
        refine g_goto (tgt := 104) dX8_writeItems_79 (by decide) ?_
        exact g_lv (fin _ _ hL2.symm hP hoff) ⟨rfl, rfl, rfl, trivial⟩
  exact g_lv (loop cnt 0 _ (by omega) hP hoff) ⟨rfl, by rw [hpl]; rfl, rfl, trivial⟩

theorem c_X8_writeRow {h : s_H} {n b : Nat} {π : s_Pl} (hP : s_pl h b π) (hn : b + 93 ≤ n) {cnt cp : Nat} (ok : d_ok π.1 cnt cp) (x : Int32) (hcell : ∀ r, r ≤ u_nf π.1 cnt → ∀ c, c ≤ 100 → ∃ v, u_cell π.1 cnt r c = nI v ∧ v < 1000000) : s_Mt TX8_writeRow 1 6 [.ref b, .int x] h n (s_rp n (fun v9 h1 => v9 = some (.int (nI (w_rw (u_cell π.1 cnt x.toNatClampNeg) 101).length)) ∧ s_pl h1 b (pl_L π (w_rw (u_cell π.1 cnt x.toNatClampNeg) 101)) ∧ s_off h h1 b (b + 93) ∧ ¬ (x < 0 ∨ s_bc (d_set π.1 0 cnt) < x ∨ (0 : Int32) < 0 ∨ (100 : Int32) < 0)) (fun E h1 => E = "java/lang/IndexOutOfBoundsException" ∧ h1 = h ∧ ¬ ¬ (x < 0 ∨ s_bc (d_set π.1 0 cnt) < x ∨ (0 : Int32) < 0 ∨ (100 : Int32) < 0))) := by
  obtain ⟨hb, hD, hS, ⟨σt, hDt⟩, ⟨pm, hH⟩, hT, ⟨go, gl, hG, hgl, hgo⟩, ⟨nx, tk, ts, ex, hsc⟩, hR⟩ := id hP
  obtain ⟨τ, hTt, hT0⟩ := id hT
  unfold s_po at hb
  have hd := hD.1
  have hs := hsc.1
  have hk := hH.1
  have ht := hTt.1
  have hg := hG.1
  have hr := hR.1
  have htd := hDt.1
  have hsd := hS.1
  have q1 := hD.2.1
  have q2 := hD.2.2.1
  have q3 := hD.2.2.2.1
  have q4 := hD.2.2.2.2
  have u1 := hDt.2.1
  have u2 := hDt.2.2.1
  have u3 := hDt.2.2.2.1
  have u4 := hDt.2.2.2.2
  rw [ok.1, ok.2.2.1] at hd
  have hoff : s_off h h b (b + 93) := s_off.rf
  refine s_Mt_of rfl (by decide) (by exact Nat.le_of_ble_eq_true rfl) ?_
  refine g_aload_n dX8_writeRow_0 rfl (by rfl) ?_
  refine g_iload_n dX8_writeRow_1 rfl (by rfl) ?_
  refine g_iconst 0 dX8_writeRow_2 (by rfl) ?_
  refine g_iconst 0 dX8_writeRow_3 (by rfl) ?_
  refine g_callV_x (c_X8_requireCell hP hn ok x 0 0) dX8_writeRow_4 (mX8_requireCell) rfl lX8_220 iX8_requireCell vX8_requireCell (by decide) (by omega) (by exact hb) rfl rfl rfl rfl (Nat.le_of_ble_eq_true rfl) (Nat.le_of_ble_eq_true rfl) (Nat.le_of_ble_eq_true rfl) (fun v9 h9 z9 => ?_) (fun E9 h9 z9 => gx_out rfl ⟨rfl, z9.1, z9.2.1, fun z => z z9.2.2⟩)
  obtain ⟨rfl, hh, hin⟩ := z9
  have hh := hh.symm
  subst hh
  obtain ⟨r, hr, rfl⟩ := nI_of (fun z => hin (Or.inl z))
  have hrn : r ≤ u_nf π.1 cnt := Nat.le_of_not_lt fun z => hin (Or.inr (Or.inl (by rw [s_bc_free ok.2.1]; exact nI_lt z (by omega))))
  have hnf := u_nf_le (σ := π.1) cnt
  have hc14 := ok.2.1
  have hcell := hcell r hrn
  refine g_aload_n dX8_writeRow_7 rfl (by rfl) ?_
  refine g_getf dX8_writeRow_8 fX8_36 (by exact hb) (by omega) (by rfl) ?_
  refine g_aload_n dX8_writeRow_11 rfl (by rfl) ?_
  refine g_getf dX8_writeRow_12 fX8_12 (by exact hb) (by omega) (by rfl) ?_
  refine g_bipush 100 dX8_writeRow_15 (by rfl) ?_
  refine g_callV_p (c_X7_build (cnt := cnt) (lc := 100) hTt hD (by omega) (by omega) (by omega) ok.1 ok.2.1 ok.sz (by omega)) dX8_writeRow_17 (mX7_build) rfl lX8_205 iX7_build vX7_build (by decide) (by omega) (by exact ht) rfl rfl rfl rfl (Nat.le_of_ble_eq_true rfl) (fun v9 h9 z9 => ?_)
  obtain ⟨rfl, qtab, qoff⟩ := z9
  obtain ⟨τ0, hτ0⟩ : ∃ τ0, τ0 = τ := ⟨_, rfl⟩
  rw [← hτ0] at hT0 qtab
  have hz9 := hT0
  have hP := hP.tab qoff (u_t0 qtab hT0)
  have hoff := hoff.trans (qoff.wide (a := _) (b := _) (a' := b) (b' := b + 93) (by omega) (by omega))
  obtain ⟨hb, hD, hS, ⟨σt, hDt⟩, ⟨pm, hH⟩, hT, ⟨go, gl, hG, hgl, hgo⟩, ⟨nx, tk, ts, ex, hsc⟩, hR⟩ := id hP
  obtain ⟨τ, hTt, hT0⟩ := id hT
  unfold s_po at hb
  have hd := hD.1
  have hs := hsc.1
  have hk := hH.1
  have ht := hTt.1
  have hg := hG.1
  have hr := hR.1
  have htd := hDt.1
  have hsd := hS.1
  have q1 := hD.2.1
  have q2 := hD.2.2.1
  have q3 := hD.2.2.2.1
  have q4 := hD.2.2.2.2
  have u1 := hDt.2.1
  have u2 := hDt.2.2.1
  have u3 := hDt.2.2.2.1
  have u4 := hDt.2.2.2.2
  rw [ok.1, ok.2.2.1] at hd
  refine g_aload_n dX8_writeRow_20 rfl (by rfl) ?_
  refine g_getf dX8_writeRow_21 fX8_57 (by exact hb) (by omega) (by rfl) ?_
  refine g_iconst 0 dX8_writeRow_24 (by rfl) ?_
  refine g_putf' dX8_writeRow_25 pX8_262 (by exact hr) (by omega) (by exact Nat.le_of_ble_eq_true rfl) (by rfl) (by rfl) (fun h1 e1 => ?_)
  first | have hb_1 := s_up_off e1 (by omega) hb | have hb_1 := s_up_at e1
  first | have hd_1 := s_up_off e1 (by omega) hd | have hd_1 := s_up_at e1
  first | have htd_1 := s_up_off e1 (by omega) htd | have htd_1 := s_up_at e1
  first | have hsd_1 := s_up_off e1 (by omega) hsd | have hsd_1 := s_up_at e1
  first | have hs_1 := s_up_off e1 (by omega) hs | have hs_1 := s_up_at e1
  first | have hk_1 := s_up_off e1 (by omega) hk | have hk_1 := s_up_at e1
  first | have ht_1 := s_up_off e1 (by omega) ht | have ht_1 := s_up_at e1
  first | have hg_1 := s_up_off e1 (by omega) hg | have hg_1 := s_up_at e1
  first | have hr_1 := s_up_off e1 (by omega) hr | have hr_1 := s_up_at e1
  first | have q1_1 := s_up_off e1 (by omega) q1 | have q1_1 := s_up_at e1
  first | have q2_1 := s_up_off e1 (by omega) q2 | have q2_1 := s_up_at e1
  first | have q3_1 := s_up_off e1 (by omega) q3 | have q3_1 := s_up_at e1
  first | have q4_1 := s_up_off e1 (by omega) q4 | have q4_1 := s_up_at e1
  first | have u1_1 := s_up_off e1 (by omega) u1 | have u1_1 := s_up_at e1
  first | have u2_1 := s_up_off e1 (by omega) u2 | have u2_1 := s_up_at e1
  first | have u3_1 := s_up_off e1 (by omega) u3 | have u3_1 := s_up_at e1
  first | have u4_1 := s_up_off e1 (by omega) u4 | have u4_1 := s_up_at e1
  have qoff : s_off h9 h1 (b + 91) (b + 93) := s_off.rf.up e1 (by omega)
  have qr : s_rep h1 (b + 91) [] := ⟨hr_1, Nat.zero_le _, hR.2.2.elim (fun f q => ⟨f, s_up_off e1 (by omega) q.1, fun q hq => absurd hq (Nat.not_lt_zero q)⟩)⟩
  have hP : s_pl h1 b (pl_L π []) := hP.rep qoff qr
  have qtab := qtab.off qoff (by omega)
  have hoff := hoff.trans (qoff.wide (a := _) (b := _) (a' := b) (b' := b + 93) (by omega) (by omega))
  refine g_iconst 0 dX8_writeRow_28 (by rfl) ?_
  refine g_istore_n dX8_writeRow_29 rfl (by decide) ?_
  have loop : ∀ (k c : Nat) (h' : s_H), c + k = 101 → s_pl h' b (pl_L π (w_rw (u_cell π.1 cnt r) c)) → s_tab h' (b + 68) (t_build π.1 100 τ0 cnt) → s_off h h' b (b + 93) → s_G TX8_writeRow (s_rp n (fun v9 h1 => v9 = some (.int (nI (w_rw (u_cell π.1 cnt (nI r).toNatClampNeg) 101).length)) ∧ s_pl h1 b (pl_L π (w_rw (u_cell π.1 cnt (nI r).toNatClampNeg) 101)) ∧ s_off h h1 b (b + 93) ∧ ¬ (nI r < 0 ∨ s_bc (d_set π.1 0 cnt) < nI r ∨ (0 : Int32) < 0 ∨ (100 : Int32) < 0)) (fun E h1 => E = "java/lang/IndexOutOfBoundsException" ∧ h1 = h ∧ ¬ ¬ (nI r < 0 ∨ s_bc (d_set π.1 0 cnt) < nI r ∨ (0 : Int32) < 0 ∨ (100 : Int32) < 0))) 30 (s_lvs [(0, .ref b), (1, .int (nI r)), (2, .int (nI c))]) [] h' n (1 - 1) (6 - 6) := by
    intro k
    induction k with
    | zero =>
      intro c h' hk hP qtab hoff
      obtain rfl : c = 101 := by omega
      obtain ⟨hb, hD, hS, ⟨σt, hDt⟩, ⟨pm, hH⟩, hT, ⟨go, gl, hG, hgl, hgo⟩, ⟨nx, tk, ts, ex, hsc⟩, hR⟩ := id hP
      obtain ⟨τ, hTt, hT0⟩ := id hT
      unfold s_po at hb
      have hd := hD.1
      have hs := hsc.1
      have hk := hH.1
      have ht := hTt.1
      have hg := hG.1
      have hr := hR.1
      have htd := hDt.1
      have hsd := hS.1
      have q1 := hD.2.1
      have q2 := hD.2.2.1
      have q3 := hD.2.2.2.1
      have q4 := hD.2.2.2.2
      have u1 := hDt.2.1
      have u2 := hDt.2.2.1
      have u3 := hDt.2.2.2.1
      have u4 := hDt.2.2.2.2
      have hD : s_disk _ (b + 1) π.1 := hD
      have hd := ok.hd hD
      have q1 := hD.2.1
      have q2 := hD.2.2.1
      have q3 := hD.2.2.2.1
      have q4 := hD.2.2.2.2
      have hR : s_rep _ (b + 91) (w_rw (u_cell π.1 cnt r) 101) := hR
      have hr := hR.1
      refine g_iload_n dX8_writeRow_30 rfl (by rfl) ?_
      refine g_bipush 100 dX8_writeRow_31 (by rfl) ?_
      refine g_icmp_gt (tgt := 80) dX8_writeRow_33 (by decide) (fun _ => ?_) (fun c_33 => absurd (show (100 : Int32) < nI 101 by decide) c_33)
      refine g_aload_n dX8_writeRow_80 rfl (by rfl) ?_
      refine g_getf dX8_writeRow_81 fX8_57 (by exact hb) (by omega) (by rfl) ?_
      refine g_getf dX8_writeRow_84 fX8_262 (by exact hr) (by omega) (by rfl) ?_
      refine g_ireturn dX8_writeRow_87 rfl ?_
      exact ⟨rfl, by rw [nI_clamp (by omega)], by rw [nI_clamp (by omega)]; exact hP, hoff, hin⟩
    | succ k ih =>
      intro c h' hk hP qtab hoff
      obtain ⟨hb, hD, hS, ⟨σt, hDt⟩, ⟨pm, hH⟩, hT, ⟨go, gl, hG, hgl, hgo⟩, ⟨nx, tk, ts, ex, hsc⟩, hR⟩ := id hP
      obtain ⟨τ, hTt, hT0⟩ := id hT
      unfold s_po at hb
      have hd := hD.1
      have hs := hsc.1
      have hk := hH.1
      have ht := hTt.1
      have hg := hG.1
      have hr := hR.1
      have htd := hDt.1
      have hsd := hS.1
      have q1 := hD.2.1
      have q2 := hD.2.2.1
      have q3 := hD.2.2.2.1
      have q4 := hD.2.2.2.2
      have u1 := hDt.2.1
      have u2 := hDt.2.2.1
      have u3 := hDt.2.2.2.1
      have u4 := hDt.2.2.2.2
      have hD : s_disk _ (b + 1) π.1 := hD
      have hd := ok.hd hD
      have q1 := hD.2.1
      have q2 := hD.2.2.1
      have q3 := hD.2.2.2.1
      have q4 := hD.2.2.2.2
      have hR : s_rep _ (b + 91) (w_rw (u_cell π.1 cnt r) c) := hR
      have hr := hR.1
      refine g_iload_n dX8_writeRow_30 rfl (by rfl) ?_
      refine g_bipush 100 dX8_writeRow_31 (by rfl) ?_
      refine g_icmp_gt (tgt := 80) dX8_writeRow_33 (by decide) (fun c_33 => absurd c_33 (Int32.not_lt.mpr (show nI c ≤ nI 100 from nI_le (by omega) (by omega)))) (fun _ => ?_)
      refine g_aload_n dX8_writeRow_36 rfl (by rfl) ?_
      refine g_getf dX8_writeRow_37 fX8_36 (by exact hb) (by omega) (by rfl) ?_
      refine g_iload_n dX8_writeRow_40 rfl (by rfl) ?_
      refine g_iload_n dX8_writeRow_41 rfl (by rfl) ?_
      refine g_callV_e (c_X7_cellWeight (r := r) (c := c) qtab (by omega) (by omega) (by omega)) dX8_writeRow_42 (mX7_cellWeight) rfl lX8_223 iX7_cellWeight vX7_cellWeight (by decide) (by omega) (by exact qtab.1) rfl rfl rfl rfl (Nat.le_of_ble_eq_true rfl) ?_
      rw [u_cell_of (u_z hz9 (Nat.le_refl _)) hrn (by omega)]
      refine g_istore_n dX8_writeRow_45 rfl (by decide) ?_
      refine g_iload_n dX8_writeRow_46 rfl (by rfl) ?_
      refine g_if_eq (tgt := 65) dX8_writeRow_47 (by decide) (fun c_47 => ?_) (fun c_47 => ?_)
      · have hcc : c = 0 ∨ u_cell π.1 cnt r (c - 1) < u_cell π.1 cnt r c := Or.inl (nI_inj (by omega) (by omega) c_47)
        refine g_aload_n dX8_writeRow_65 rfl (by rfl) ?_
        refine g_getf dX8_writeRow_66 fX8_57 (by exact hb) (by omega) (by rfl) ?_
        refine g_iload_n dX8_writeRow_69 rfl (by rfl) ?_
        refine g_iload_n dX8_writeRow_70 rfl (by rfl) ?_
        obtain ⟨v, hv, hv9⟩ := hcell c (by omega)
        rw [hv]
        refine g_callV_p (c_X5_putPair (a := c) (b := v) hR (by omega) (by have := w_rw_len hcell c (by omega); omega) (by omega) (by omega)) dX8_writeRow_71 (mX5_putPair) rfl lX8_263 iX5_putPair vX5_putPair (by decide) (by omega) (by exact hr) rfl rfl rfl rfl (Nat.le_of_ble_eq_true rfl) (fun v9 h9 z9 => ?_)
        obtain ⟨rfl, qr, qoff⟩ := z9
        have hP : s_pl h9 b (pl_L π (w_rw (u_cell π.1 cnt r) (c + 1))) := by
          have hP9 := hP.rep qoff qr
          simp only [w_rw]
          rw [if_pos hcc, hv, nI_clamp (by omega)]
          exact hP9
        have qtab := qtab.off qoff (by omega)
        have hoff := hoff.trans (qoff.wide (a := _) (b := _) (a' := b) (b' := b + 93) (by omega) (by omega))
        refine g_iinc (nI (c + 1)) dX8_writeRow_74 (by rfl) (nI_inc c) ?_
        refine g_goto (tgt := 30) dX8_writeRow_77 (by decide) ?_
        exact g_lv (ih _ _ (by omega) hP qtab hoff) ⟨rfl, rfl, rfl, trivial⟩
      · have hc0 : c ≠ 0 := fun z => c_47 (by rw [z]; rfl)
        refine g_iload_n dX8_writeRow_50 rfl (by rfl) ?_
        refine g_aload_n dX8_writeRow_51 rfl (by rfl) ?_
        refine g_getf dX8_writeRow_52 fX8_36 (by exact hb) (by omega) (by rfl) ?_
        refine g_iload_n dX8_writeRow_55 rfl (by rfl) ?_
        refine g_iload_n dX8_writeRow_56 rfl (by rfl) ?_
        refine g_iconst 1 dX8_writeRow_57 (by rfl) ?_
        refine g_isub dX8_writeRow_58 ?_
        rw [show (nI c - 1 : Int32) = nI (c - 1) from nI_sble (b := 1) (by omega)]
        refine g_callV_e (c_X7_cellWeight (r := r) (c := (c - 1)) qtab (by omega) (by omega) (by omega)) dX8_writeRow_59 (mX7_cellWeight) rfl lX8_223 iX7_cellWeight vX7_cellWeight (by decide) (by omega) (by exact qtab.1) rfl rfl rfl rfl (Nat.le_of_ble_eq_true rfl) ?_
        rw [u_cell_of (u_z hz9 (Nat.le_refl _)) hrn (by omega)]
        refine g_icmp_le (tgt := 74) dX8_writeRow_62 (by decide) (fun c_62 => ?_) (fun c_62 => ?_)
        · have hcc : ¬ (c = 0 ∨ u_cell π.1 cnt r (c - 1) < u_cell π.1 cnt r c) := fun z => z.elim hc0 (fun z => Int32.not_le.mpr z c_62)
          have hP : s_pl h' b (pl_L π (w_rw (u_cell π.1 cnt r) (c + 1))) := by
            rw [show w_rw (u_cell π.1 cnt r) (c + 1) = w_rw (u_cell π.1 cnt r) c from if_neg hcc]
            exact hP
          refine g_iinc (nI (c + 1)) dX8_writeRow_74 (by rfl) (nI_inc c) ?_
          refine g_goto (tgt := 30) dX8_writeRow_77 (by decide) ?_
          exact g_lv (ih _ _ (by omega) hP qtab hoff) ⟨rfl, rfl, rfl, trivial⟩
        · have hcc : c = 0 ∨ u_cell π.1 cnt r (c - 1) < u_cell π.1 cnt r c := Or.inr (Int32.not_le.mp c_62)
          refine g_aload_n dX8_writeRow_65 rfl (by rfl) ?_
          refine g_getf dX8_writeRow_66 fX8_57 (by exact hb) (by omega) (by rfl) ?_
          refine g_iload_n dX8_writeRow_69 rfl (by rfl) ?_
          refine g_iload_n dX8_writeRow_70 rfl (by rfl) ?_
          obtain ⟨v, hv, hv9⟩ := hcell c (by omega)
          rw [hv]
          refine g_callV_p (c_X5_putPair (a := c) (b := v) hR (by omega) (by have := w_rw_len hcell c (by omega); omega) (by omega) (by omega)) dX8_writeRow_71 (mX5_putPair) rfl lX8_263 iX5_putPair vX5_putPair (by decide) (by omega) (by exact hr) rfl rfl rfl rfl (Nat.le_of_ble_eq_true rfl) (fun v9 h9 z9 => ?_)
          obtain ⟨rfl, qr, qoff⟩ := z9
          have hP : s_pl h9 b (pl_L π (w_rw (u_cell π.1 cnt r) (c + 1))) := by
            have hP9 := hP.rep qoff qr
            simp only [w_rw]
            rw [if_pos hcc, hv, nI_clamp (by omega)]
            exact hP9
          have qtab := qtab.off qoff (by omega)
          have hoff := hoff.trans (qoff.wide (a := _) (b := _) (a' := b) (b' := b + 93) (by omega) (by omega))
          refine g_iinc (nI (c + 1)) dX8_writeRow_74 (by rfl) (nI_inc c) ?_
          refine g_goto (tgt := 30) dX8_writeRow_77 (by decide) ?_
          exact g_lv (ih _ _ (by omega) hP qtab hoff) ⟨rfl, rfl, rfl, trivial⟩
  exact g_lv (loop 101 0 _ (by omega) hP qtab hoff) ⟨rfl, rfl, rfl, trivial⟩
