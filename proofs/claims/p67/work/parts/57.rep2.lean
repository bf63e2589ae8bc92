/-! THE SCRIPT: repeat above the deepest level -/
theorem c_runRepeatL {n b len k kc lv : Nat} {tx : Nat → Int32} {rc : x_S → Bool × x_S} (RCt : ∀ (h : s_H) (S : x_S) (cnt cp : Nat), s_sy h b tx len S → d_ok S.1 cnt cp → S.2.2.2.2.2.2 ≤ 100 → s_Mt (TX6_runCommands kc) 0 0 [.ref (b + 89), .ref (b + 6), .ref (b + 68), .int (nI (lv + 1))] h n (s_rp n (fun v9 h1 => v9 = some (.int (x_bi (rc S).1)) ∧ s_sy h1 b tx len (rc S).2 ∧ s_off3 h h1 b) s_no)) (hrc : x_keeps rc) (hkc : kc + 1 ≤ k) (hk9 : 9 ≤ k) (hlv : lv < 2) {h : s_H} {S : x_S} {cnt cp : Nat} (hw : s_sx h b tx len S) (hn : b + 93 ≤ n) (ok : d_ok S.1 cnt cp) (hl : len ≤ 500) (hex : S.2.2.2.2.2.2 ≤ 100) : s_Mt (TX6_runRepeat k) 0 0 [.ref (b + 89), .ref (b + 6), .ref (b + 68), .int (nI lv)] h n (s_rp n (fun v9 h1 => v9 = some (.int (x_bi (x_rpF tx len rc S).1)) ∧ s_sy h1 b tx len (x_rpF tx len rc S).2 ∧ s_off3 h h1 b) s_no) := by
  obtain ⟨hw0, htq, hq⟩ := id hw
  have hsc := hw0.1
  have hs := hsc.1
  have hx := hsc.2
  refine s_Mt_of rfl (show plainName "BackupPlanner$Script" = true by decide) (by exact Nat.le_of_ble_eq_true rfl) ?_
  refine g_iload_n dX6_runRepeat_0 rfl (by rfl) ?_
  refine g_iconst 2 dX6_runRepeat_1 (by rfl) ?_
  refine g_icmp_lt (tgt := 11) dX6_runRepeat_2 (by decide) (fun _ => ?_) (fun c_2 => absurd (show nI lv < nI 2 from nI_lt hlv (by decide)) c_2)
  refine g_aload_n dX6_runRepeat_11 rfl (by rfl) ?_
  refine g_iconst 1 dX6_runRepeat_12 (by rfl) ?_
  refine g_bipush 20 dX6_runRepeat_13 (by rfl) ?_
  refine g_callV_p (c_X6_readNumber (n := n) hsc (by omega) hq hl 1 20) dX6_runRepeat_15 (mX6_readNumber) rfl lX6_50 iX6_readNumber vX6_readNumber (show 2 + 1 ≤ k by omega) (by omega) (by exact hs) rfl rfl rfl rfl (Nat.le_of_ble_eq_true rfl) (fun v9 h9 z9 => ?_)
  obtain ⟨rfl, y2, y3⟩ := z9
  obtain ⟨hw, hoff⟩ := x_rdx (r := (x_rd tx len S.2.2.2.1 1 20)) hw ok y2 y3
  have hw : s_sx h9 b tx len (x_num tx len 1 20 S) := hw
  obtain ⟨hw0, htq, hq⟩ := id hw
  have hsc := hw0.1
  have hs := hsc.1
  have hx := hsc.2
  refine g_istore dX6_runRepeat_18 (Nat.le_of_ble_eq_true rfl) ?_
  refine g_iload dX6_runRepeat_20 (by rfl) ?_
  refine g_iconst (-1) dX6_runRepeat_22 (by rfl) ?_
  refine g_icmp_eq (tgt := 35) dX6_runRepeat_23 (by decide) (fun c_23 => ?_) (fun c_23 => ?_)
  · have e : (x_rpF tx len rc S) = (false, (x_num tx len 1 20 S)) := by unfold x_rpF; rw [if_pos c_23]
    have hw := hw.sy
    refine g_iconst 0 dX6_runRepeat_35 (by rfl) ?_
    refine g_zreturn dX6_runRepeat_36 rfl (by decide) ?_
    rw [e]
    exact ⟨rfl, rfl, hw, hoff⟩
  · refine g_aload_n dX6_runRepeat_26 rfl (by rfl) ?_
    refine g_bipush 40 dX6_runRepeat_27 (by rfl) ?_
    refine g_callV_p (c_yexp hw.sy hn hl 40) dX6_runRepeat_29 (mX6_expect) rfl lX6_54 iX6_expect vX6_expect (show 2 + 1 ≤ k by omega) (by omega) (by exact hs) rfl rfl rfl rfl (Nat.le_of_ble_eq_true rfl) (fun v9 h9 z9 => ?_)
    obtain ⟨rfl, hw, hoff2⟩ := z9
    have hoff := hoff.tr hoff2
    refine g_if_ne (tgt := 37) dX6_runRepeat_32 (by decide) (fun c_32 => ?_) (fun c_32 => ?_)
    · have h40 : (x_next tx len (x_num tx len 1 20 S)).2.2.2.2.1 = 40 := Classical.byContradiction fun z => c_32 (by rw [if_neg z])
      rw [if_pos h40] at hw
      obtain ⟨hw0, htq, hq⟩ := id hw
      have hsc := hw0.1
      have hs := hsc.1
      have hx := hsc.2
      refine g_aload_n dX6_runRepeat_37 rfl (by rfl) ?_
      refine g_getf dX6_runRepeat_38 fX6_25 (by exact hs) (by omega) (by rfl) ?_
      refine g_istore dX6_runRepeat_41 (Nat.le_of_ble_eq_true rfl) ?_
      refine g_iconst 0 dX6_runRepeat_43 (by rfl) ?_
      refine g_istore dX6_runRepeat_44 (Nat.le_of_ble_eq_true rfl) ?_
      obtain ⟨m, hm, hm1, hm20⟩ := x_rd_in (tx := tx) (len := len) (q := S.2.2.2.1) (lo := 1) (hi := 20) (by decide) c_23 (by decide)
      have em : (x_rd tx len S.2.2.2.1 1 20).1 = nI m := hm
      have hb9 : (x_next tx len (x_num tx len 1 20 S)).2.2.2.1 ≤ len := hq
      have he0 : (x_rpF tx len rc S) = (x_rpl tx len rc (x_next tx len (x_num tx len 1 20 S)).2.2.2.1 m (x_next tx len (x_num tx len 1 20 S))) := by
        unfold x_rpF
        rw [if_neg c_23, if_pos h40, em, nI_clamp (by omega)]
      have ok2 : d_ok (x_next tx len (x_num tx len 1 20 S)).1 cnt cp := by
        have := (x_num_d (tx := tx) (len := len) (lo := 1) (hi := 20) (S := S)).1
        show d_ok (x_num tx len 1 20 S).1 cnt cp
        rw [this]; exact ok
      have hex2 : (x_next tx len (x_num tx len 1 20 S)).2.2.2.2.2.2 ≤ 100 := by
        have := (x_num_d (tx := tx) (len := len) (lo := 1) (hi := 20) (S := S)).2
        show (x_num tx len 1 20 S).2.2.2.2.2.2 ≤ 100
        rw [this]; exact hex
      have loop : ∀ (r c : Nat) (h' : s_H) (S9 : x_S) (cn9 cp9 : Nat), c + r = m → s_sy h' b tx len S9 → s_off3 h h' b → d_ok S9.1 cn9 cp9 → S9.2.2.2.2.2.2 ≤ 100 → (x_rpF tx len rc S) = (x_rpl tx len rc (x_next tx len (x_num tx len 1 20 S)).2.2.2.1 r S9) → s_G (TX6_runRepeat k) (s_rp n (fun v9 h1 => v9 = some (.int (x_bi (x_rpF tx len rc S).1)) ∧ s_sy h1 b tx len (x_rpF tx len rc S).2 ∧ s_off3 h h1 b) s_no) 46 (s_lvs [(0, .ref (b + 89)), (1, .ref (b + 6)), (2, .ref (b + 68)), (3, .int (nI lv)), (4, .int (nI m)), (5, .int (nI (x_next tx len (x_num tx len 1 20 S)).2.2.2.1)), (6, .int (nI c))]) [] h' n 0 0 := by
        intro r
        induction r with
        | zero =>
          intro c h' S9 cn9 cp9 hc hw hoff ok hex he
          obtain rfl : c = m := by omega
          have hs := hw.1.1.1
          have hx := hw.1.1.2
          refine g_iload dX6_runRepeat_46 (by rfl) ?_
          refine g_iload dX6_runRepeat_48 (by rfl) ?_
          refine g_icmp_ge (tgt := 79) dX6_runRepeat_50 (by decide) (fun _ => ?_) (fun c_50 => absurd (nI_le (Nat.le_refl _) (by omega)) c_50)
          refine g_aload_n dX6_runRepeat_79 rfl (by rfl) ?_
          refine g_bipush 59 dX6_runRepeat_80 (by rfl) ?_
          refine g_callV_p (c_yexp hw hn hl 59) dX6_runRepeat_82 (mX6_expect) rfl lX6_54 iX6_expect vX6_expect (show 2 + 1 ≤ k by omega) (by omega) (by exact hs) rfl rfl rfl rfl (Nat.le_of_ble_eq_true rfl) (fun v9 h9 z9 => ?_)
          obtain ⟨rfl, hw, hoff2⟩ := z9
          have hoff := hoff.tr hoff2
          refine g_zreturn dX6_runRepeat_85 rfl (by split <;> first | exact Or.inl rfl | exact Or.inr rfl) ?_
          rw [he]
          simp only [x_rpl]
          by_cases h59 : (x_next tx len S9).2.2.2.2.1 = 59
          · rw [if_pos h59] at hw ⊢
            rw [if_pos h59]
            exact ⟨rfl, rfl, hw.sy, hoff⟩
          · rw [if_neg h59] at hw ⊢
            rw [if_neg h59]
            exact ⟨rfl, rfl, hw.sy, hoff⟩
        | succ r ih =>
          intro c h' S9 cn9 cp9 hc hw hoff ok hex he
          have hs := hw.1.1.1
          have hx := hw.1.1.2
          refine g_iload dX6_runRepeat_46 (by rfl) ?_
          refine g_iload dX6_runRepeat_48 (by rfl) ?_
          refine g_icmp_ge (tgt := 79) dX6_runRepeat_50 (by decide) (fun c_50 => absurd c_50 (nI_ge (by omega) (by omega))) (fun _ => ?_)
          refine g_aload_n dX6_runRepeat_53 rfl (by rfl) ?_
          refine g_iload dX6_runRepeat_54 (by rfl) ?_
          refine g_putf' dX6_runRepeat_56 pX6_25 (by exact hs) (by omega) (by exact Nat.le_of_ble_eq_true rfl) (by rfl) (by rfl) (fun h1 e1 => ?_)
          first | have hs_1 := s_up_off e1 (by omega) hs | have hs_1 := s_up_at e1
          first | have hx_1 := s_up_off e1 (by omega) hx | have hx_1 := s_up_at e1
          have qoff : s_off h' h1 (b + 89) (b + 91) := s_off.rf.up e1 (by omega)
          have hw : s_sy h1 b tx len (x_to (x_next tx len (x_num tx len 1 20 S)).2.2.2.1 S9) := ⟨⟨⟨hs_1, hx_1⟩, hw.1.2.1.off qoff (by omega), hw.1.2.2.off qoff (by omega)⟩, hb9⟩
          have hoff := hoff.tr (s_off3.of qoff (by omega))
          refine g_aload_n dX6_runRepeat_59 rfl (by rfl) ?_
          refine g_aload_n dX6_runRepeat_60 rfl (by rfl) ?_
          refine g_aload_n dX6_runRepeat_61 rfl (by rfl) ?_
          refine g_iload_n dX6_runRepeat_62 rfl (by rfl) ?_
          refine g_iconst 1 dX6_runRepeat_63 (by rfl) ?_
          refine g_iadd dX6_runRepeat_64 ?_
          rw [nI_1]
          refine g_callV_p (RCt _ (x_to (x_next tx len (x_num tx len 1 20 S)).2.2.2.1 S9) _ _ hw ok hex) dX6_runRepeat_65 (mX6_runCommands _) rfl lX6_73 iX6_runCommands vX6_runCommands hkc (by omega) (by exact hs_1) rfl rfl rfl rfl (Nat.le_of_ble_eq_true rfl) (fun v9 h9 z9 => ?_)
          obtain ⟨rfl, hw, hoff2⟩ := z9
          have hoff := hoff.tr hoff2
          refine g_if_ne (tgt := 73) dX6_runRepeat_68 (by decide) (fun c_68 => ?_) (fun c_68 => ?_)
          · refine g_iinc (nI (c + 1)) dX6_runRepeat_73 (by rfl) (nI_inc c) ?_
            refine g_goto (tgt := 46) dX6_runRepeat_76 (by decide) ?_
            obtain ⟨⟨c2, p2, o2⟩, e2⟩ := hrc (x_to (x_next tx len (x_num tx len 1 20 S)).2.2.2.1 S9) _ _ ok hex
            exact g_lv (ih (c + 1) _ _ _ _ (by omega) hw hoff o2 e2 (by rw [he]; simp only [x_rpl]; rw [if_pos (x_bi_t c_68)])) ⟨rfl, rfl, rfl, rfl, rfl, rfl, rfl, trivial⟩
          · refine g_iconst 0 dX6_runRepeat_71 (by rfl) ?_
            refine g_zreturn dX6_runRepeat_72 rfl (by decide) ?_
            rw [he]
            simp only [x_rpl]
            rw [if_neg (x_bi_f c_68)]
            exact ⟨rfl, rfl, hw, hoff⟩
      refine g_lv (loop m 0 _ _ cnt cp (by omega) hw.sy hoff ok2 hex2 he0) ⟨rfl, rfl, rfl, rfl, ?_, rfl, rfl, trivial⟩
      rw [← em]
      rfl
    · have h40 : ¬ (x_next tx len (x_num tx len 1 20 S)).2.2.2.2.1 = 40 := fun z => by rw [if_pos z] at c_32; exact absurd c_32 (by decide)
      rw [if_neg h40] at hw
      have e : (x_rpF tx len rc S) = (false, x_fail (x_next tx len (x_num tx len 1 20 S)) 1) := by unfold x_rpF; rw [if_neg c_23, if_neg h40]
      have hw := hw.sy
      refine g_iconst 0 dX6_runRepeat_35 (by rfl) ?_
      refine g_zreturn dX6_runRepeat_36 rfl (by decide) ?_
      rw [e]
      exact ⟨rfl, rfl, hw, hoff⟩
