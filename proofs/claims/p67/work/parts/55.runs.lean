/-! THE SCRIPT: all commands -/
/-- the same, but for the token's start (which a repeat leaves behind) -/
def s_sy (h : s_H) (b : Nat) (tx : Nat → Int32) (len : Nat) (S : x_S) : Prop := s_sw h b S.1 tx len S.2.1 S.2.2.1 S.2.2.2.1 S.2.2.2.2.1 S.2.2.2.2.2.1 S.2.2.2.2.2.2 ∧ S.2.2.2.1 ≤ len
theorem s_sx.sy {h : s_H} {b len : Nat} {tx : Nat → Int32} {S : x_S} (q : s_sx h b tx len S) : s_sy h b tx len S := ⟨q.1, q.2.2⟩
/-- the next token, in a script's world -/
theorem c_xnext {h : s_H} {n b len : Nat} {tx : Nat → Int32} {S : x_S} (hw : s_sy h b tx len S) (hn : b + 93 ≤ n) (hl : len ≤ 500) : s_Mt TX6_readToken 0 0 [.ref (b + 89)] h n (s_rp n (fun v9 h1 => v9 = none ∧ s_sx h1 b tx len (x_next tx len S) ∧ s_off3 h h1 b) s_no) := by
  obtain ⟨⟨hsc, hD, hT⟩, hq⟩ := hw
  have hle := x_next_le (tx := tx) hq
  refine s_Mt_mono (c_X6_readToken (n := n) hsc (by omega) hq hl) (fun o h1 n1 q => ⟨q.1, ?_⟩)
  rcases o with r | E
  · obtain ⟨-, q1, q2, q3⟩ := q
    exact ⟨q1, ⟨⟨q2, hD.off q3 (by omega), hT.off q3 (by omega)⟩, hle⟩, s_off3.of q3 (by omega)⟩
  · exact q.2
/-- what runs a repeat keeps to -/
def x_keeps (rp : x_S → Bool × x_S) : Prop := ∀ S cnt cp, d_ok S.1 cnt cp → S.2.2.2.2.2.2 ≤ 100 → (∃ c2 p2, d_ok (rp S).2.1 c2 p2) ∧ (rp S).2.2.2.2.2.2.2 ≤ 100
/-- commands up to a sign -/
noncomputable def x_rcF (tx : Nat → Int32) (len : Nat) (rp : x_S → Bool × x_S) (fin : Int32) : Nat → x_S → Bool × x_S
  | 0, S => (false, S)
  | f + 1, S => if (x_next tx len S).2.2.2.2.1 = fin then (true, x_next tx len S) else
    if x_is tx (x_next tx len S).2.2.2.1 (x_next tx len S).2.2.2.2.1 (x_next tx len S).2.2.2.2.2.1 1 = true then
      (if (rp (x_next tx len S)).1 = true then x_rcF tx len rp fin f (rp (x_next tx len S)).2 else (false, (rp (x_next tx len S)).2))
    else (if (x_cmd tx len (x_next tx len S)).1 = true then x_rcF tx len rp fin f (x_cmd tx len (x_next tx len S)).2 else (false, (x_cmd tx len (x_next tx len S)).2))
theorem x_bi_t {x : Bool} (h : ¬ x_bi x = 0) : x = true := by
  cases x
  · exact absurd rfl h
  · rfl
theorem x_bi_f {x : Bool} (h : x_bi x = 0) : ¬ x = true := fun z => by rw [z] at h; exact absurd h (by decide)
theorem x_rcF_ok {tx : Nat → Int32} {len : Nat} {rp : x_S → Bool × x_S} {fin : Int32} (hr : x_keeps rp) : ∀ f, x_keeps (x_rcF tx len rp fin f)
  | 0 => fun S cnt cp ok hex => ⟨⟨_, _, ok⟩, hex⟩
  | f + 1 => fun S cnt cp ok hex => by
    have ok1 : d_ok (x_next tx len S).1 cnt cp := ok
    unfold x_rcF
    by_cases h1 : (x_next tx len S).2.2.2.2.1 = fin
    · rw [if_pos h1]; exact ⟨⟨_, _, ok1⟩, hex⟩
    · rw [if_neg h1]
      by_cases h2 : x_is tx (x_next tx len S).2.2.2.1 (x_next tx len S).2.2.2.2.1 (x_next tx len S).2.2.2.2.2.1 1 = true
      · rw [if_pos h2]
        obtain ⟨⟨c2, p2, o2⟩, e2⟩ := hr (x_next tx len S) cnt cp ok1 hex
        split
        · exact x_rcF_ok hr f _ _ _ o2 e2
        · exact ⟨⟨_, _, o2⟩, e2⟩
      · rw [if_neg h2]
        obtain ⟨⟨c2, p2, o2⟩, e2⟩ := x_cmd_ok (tx := tx) (len := len) ok1 hex
        split
        · exact x_rcF_ok hr f _ _ _ o2 e2
        · exact ⟨⟨_, _, o2⟩, e2⟩

theorem c_runCommands {n b len k kr lv : Nat} {tx : Nat → Int32} {rp : x_S → Bool × x_S} (RP : ∀ (h : s_H) (S : x_S) (cnt cp : Nat), s_sx h b tx len S → d_ok S.1 cnt cp → S.2.2.2.2.2.2 ≤ 100 → s_Mt (TX6_runRepeat kr) 0 0 [.ref (b + 89), .ref (b + 6), .ref (b + 68), .int (nI lv)] h n (s_rp n (fun v9 h1 => v9 = some (.int (x_bi (rp S).1)) ∧ s_sy h1 b tx len (rp S).2 ∧ s_off3 h h1 b) s_no)) (hr : x_keeps rp) (hkr : kr + 1 ≤ k) (hk9 : 9 ≤ k) (hlv9 : lv ≤ 2) {h : s_H} {S : x_S} {cnt cp : Nat} (hw : s_sy h b tx len S) (hn : b + 93 ≤ n) (ok : d_ok S.1 cnt cp) (hl : len ≤ 500) (hex : S.2.2.2.2.2.2 ≤ 100) : s_Mt (TX6_runCommands k) 0 0 [.ref (b + 89), .ref (b + 6), .ref (b + 68), .int (nI lv)] h n (s_rp n (fun v9 h1 => v9 = some (.int (x_bi (x_rcF tx len rp (if lv = 0 then 0 else 41) 501 S).1)) ∧ s_sy h1 b tx len (x_rcF tx len rp (if lv = 0 then 0 else 41) 501 S).2 ∧ s_off3 h h1 b) s_no) := by
  have loop : ∀ (r c : Nat) (h' : s_H) (S9 : x_S) (cn9 cp9 : Nat), c + r = 501 → s_sy h' b tx len S9 → s_off3 h h' b → d_ok S9.1 cn9 cp9 → S9.2.2.2.2.2.2 ≤ 100 → (x_rcF tx len rp (if lv = 0 then 0 else 41) 501 S) = (x_rcF tx len rp (if lv = 0 then 0 else 41) r S9) → s_G (TX6_runCommands k) (s_rp n (fun v9 h1 => v9 = some (.int (x_bi (x_rcF tx len rp (if lv = 0 then 0 else 41) 501 S).1)) ∧ s_sy h1 b tx len (x_rcF tx len rp (if lv = 0 then 0 else 41) 501 S).2 ∧ s_off3 h h1 b) s_no) 15 (s_lvs [(0, .ref (b + 89)), (1, .ref (b + 6)), (2, .ref (b + 68)), (3, .int (nI lv)), (4, .int (if lv = 0 then 0 else 41)), (5, .int (nI c))]) [] h' n 0 0 := by
    intro r
    induction r with
    | zero =>
      intro c h' S9 cn9 cp9 hc hw hoff ok hex he
      obtain rfl : c = 501 := by omega
      refine g_iload dX6_runCommands_15 (by rfl) ?_
      refine g_sipush 500 dX6_runCommands_17 (by rfl) ?_
      refine g_icmp_gt (tgt := 78) dX6_runCommands_20 (by decide) (fun _ => ?_) (fun c_20 => absurd (show (500 : Int32) < nI 501 by decide) c_20)
      refine g_iconst 0 dX6_runCommands_78 (by rfl) ?_
      refine g_zreturn dX6_runCommands_79 rfl (by decide) ?_
      rw [he]
      exact ⟨rfl, rfl, hw, hoff⟩
    | succ r ih =>
      intro c h' S9 cn9 cp9 hc hw hoff ok hex he
      obtain ⟨hw0, hq⟩ := id hw
      have hsc := hw0.1
      have hs := hsc.1
      have hx := hsc.2
      have ok9 : d_ok (x_next tx len S9).1 cn9 cp9 := ok
      have hex9 : (x_next tx len S9).2.2.2.2.2.2 ≤ 100 := hex
      refine g_iload dX6_runCommands_15 (by rfl) ?_
      refine g_sipush 500 dX6_runCommands_17 (by rfl) ?_
      refine g_icmp_gt (tgt := 78) dX6_runCommands_20 (by decide) (fun c_20 => absurd c_20 (Int32.not_lt.mpr (show nI c ≤ nI 500 from nI_le (by omega) (by omega)))) (fun _ => ?_)
      refine g_aload_n dX6_runCommands_23 rfl (by rfl) ?_
      refine g_callV_p (c_xnext hw hn hl) dX6_runCommands_24 (mX6_readToken) rfl lX6_37 iX6_readToken vX6_readToken (show 1 + 1 ≤ k by omega) (by omega) (by exact hs) rfl rfl rfl rfl (Nat.le_of_ble_eq_true rfl) (fun v9 h9 z9 => ?_)
      obtain ⟨rfl, hw, hoff2⟩ := z9
      have hoff := hoff.tr hoff2
      obtain ⟨hw0, htq, hq⟩ := id hw
      have hsc := hw0.1
      have hs := hsc.1
      have hx := hsc.2
      refine g_aload_n dX6_runCommands_27 rfl (by rfl) ?_
      refine g_getf dX6_runCommands_28 fX6_28 (by exact hs) (by omega) (by rfl) ?_
      refine g_iload dX6_runCommands_31 (by rfl) ?_
      refine g_icmp_ne (tgt := 38) dX6_runCommands_33 (by decide) (fun c_33 => ?_) (fun c_33 => ?_)
      · have h1 : ¬ (x_next tx len S9).2.2.2.2.1 = (if lv = 0 then 0 else 41) := c_33
        refine g_aload_n dX6_runCommands_38 rfl (by rfl) ?_
        refine g_kstr (i := 1) (text := "repeat") (show ("BackupPlanner$Script", 63, "repeat", 1) ∈ s_str by decide) dX6_runCommands_39 ?_
        refine g_callV_e (c_X6_isWord (i := 1) hsc (by omega) htq (by omega) (by omega)) dX6_runCommands_41 (mX6_isWord) rfl lX6_42 iX6_isWord vX6_isWord (show 5 + 1 ≤ k by omega) (by omega) (by exact hs) rfl rfl rfl rfl (Nat.le_of_ble_eq_true rfl) ?_
        refine g_if_eq (tgt := 57) dX6_runCommands_44 (by decide) (fun c_44 => ?_) (fun c_44 => ?_)
        · have h2 := x_bi_f c_44
          refine g_aload_n dX6_runCommands_57 rfl (by rfl) ?_
          refine g_aload_n dX6_runCommands_58 rfl (by rfl) ?_
          refine g_aload_n dX6_runCommands_59 rfl (by rfl) ?_
          refine g_callV_p (c_runCommand hw hn ok9 hl (by omega)) dX6_runCommands_60 (mX6_runCommand) rfl lX6_69 iX6_runCommand vX6_runCommand (show 7 + 1 ≤ k by omega) (by omega) (by exact hs) rfl rfl rfl rfl (Nat.le_of_ble_eq_true rfl) (fun v9 h9 z9 => ?_)
          obtain ⟨rfl, hw, hoff2⟩ := z9
          have hoff := hoff.tr hoff2
          have hw := hw.sy
          refine g_istore dX6_runCommands_63 (Nat.le_of_ble_eq_true rfl) ?_
          refine g_iload dX6_runCommands_65 (by rfl) ?_
          refine g_if_ne (tgt := 72) dX6_runCommands_67 (by decide) (fun c_67 => ?_) (fun c_67 => ?_)
          · refine g_iinc (nI (c + 1)) dX6_runCommands_72 (by rfl) (nI_inc c) ?_
            refine g_goto (tgt := 15) dX6_runCommands_75 (by decide) ?_
            first
              | (obtain ⟨⟨c2, p2, o2⟩, e2⟩ := hr (x_next tx len S9) _ _ ok9 hex9
                 exact g_lv (ih (c + 1) _ _ _ _ (by omega) hw hoff o2 e2 (by rw [he]; simp only [x_rcF]; rw [if_neg h1, if_pos h2, if_pos (x_bi_t c_67)])) ⟨rfl, rfl, rfl, rfl, rfl, rfl, trivial⟩)
              | (obtain ⟨⟨c2, p2, o2⟩, e2⟩ := x_cmd_ok (tx := tx) (len := len) ok9 hex9
                 exact g_lv (ih (c + 1) _ _ _ _ (by omega) hw hoff o2 e2 (by rw [he]; simp only [x_rcF]; rw [if_neg h1, if_neg h2, if_pos (x_bi_t c_67)])) ⟨rfl, rfl, rfl, rfl, rfl, rfl, trivial⟩)
          · refine g_iconst 0 dX6_runCommands_70 (by rfl) ?_
            refine g_zreturn dX6_runCommands_71 rfl (by decide) ?_
            rw [he]
            simp only [x_rcF]
            first
              | (rw [if_neg h1, if_pos h2, if_neg (x_bi_f c_67)]; exact ⟨rfl, rfl, hw, hoff⟩)
              | (rw [if_neg h1, if_neg h2, if_neg (x_bi_f c_67)]; exact ⟨rfl, rfl, hw, hoff⟩)
        · have h2 := x_bi_t c_44
          refine g_aload_n dX6_runCommands_47 rfl (by rfl) ?_
          refine g_aload_n dX6_runCommands_48 rfl (by rfl) ?_
          refine g_aload_n dX6_runCommands_49 rfl (by rfl) ?_
          refine g_iload_n dX6_runCommands_50 rfl (by rfl) ?_
          refine g_callV_p (RP _ (x_next tx len S9) _ _ hw ok9 hex9) dX6_runCommands_51 (mX6_runRepeat _) rfl lX6_65 iX6_runRepeat vX6_runRepeat hkr (by omega) (by exact hs) rfl rfl rfl rfl (Nat.le_of_ble_eq_true rfl) (fun v9 h9 z9 => ?_)
          obtain ⟨rfl, hw, hoff2⟩ := z9
          have hoff := hoff.tr hoff2
          refine g_goto (tgt := 63) dX6_runCommands_54 (by decide) ?_
          refine g_istore dX6_runCommands_63 (Nat.le_of_ble_eq_true rfl) ?_
          refine g_iload dX6_runCommands_65 (by rfl) ?_
          refine g_if_ne (tgt := 72) dX6_runCommands_67 (by decide) (fun c_67 => ?_) (fun c_67 => ?_)
          · refine g_iinc (nI (c + 1)) dX6_runCommands_72 (by rfl) (nI_inc c) ?_
            refine g_goto (tgt := 15) dX6_runCommands_75 (by decide) ?_
            first
              | (obtain ⟨⟨c2, p2, o2⟩, e2⟩ := hr (x_next tx len S9) _ _ ok9 hex9
                 exact g_lv (ih (c + 1) _ _ _ _ (by omega) hw hoff o2 e2 (by rw [he]; simp only [x_rcF]; rw [if_neg h1, if_pos h2, if_pos (x_bi_t c_67)])) ⟨rfl, rfl, rfl, rfl, rfl, rfl, trivial⟩)
              | (obtain ⟨⟨c2, p2, o2⟩, e2⟩ := x_cmd_ok (tx := tx) (len := len) ok9 hex9
                 exact g_lv (ih (c + 1) _ _ _ _ (by omega) hw hoff o2 e2 (by rw [he]; simp only [x_rcF]; rw [if_neg h1, if_neg h2, if_pos (x_bi_t c_67)])) ⟨rfl, rfl, rfl, rfl, rfl, rfl, trivial⟩)
          · refine g_iconst 0 dX6_runCommands_70 (by rfl) ?_
            refine g_zreturn dX6_runCommands_71 rfl (by decide) ?_
            rw [he]
            simp only [x_rcF]
            first
              | (rw [if_neg h1, if_pos h2, if_neg (x_bi_f c_67)]; exact ⟨rfl, rfl, hw, hoff⟩)
              | (rw [if_neg h1, if_neg h2, if_neg (x_bi_f c_67)]; exact ⟨rfl, rfl, hw, hoff⟩)
      · have h1 : (x_next tx len S9).2.2.2.2.1 = (if lv = 0 then 0 else 41) := c_33
        refine g_iconst 1 dX6_runCommands_36 (by rfl) ?_
        refine g_zreturn dX6_runCommands_37 rfl (by decide) ?_
        rw [he]
        simp only [x_rcF]
        rw [if_pos h1]
        exact ⟨rfl, rfl, hw.sy, hoff⟩
  refine s_Mt_of rfl (show plainName "BackupPlanner$Script" = true by decide) (by exact Nat.le_of_ble_eq_true rfl) ?_
  refine g_iload_n dX6_runCommands_0 rfl (by rfl) ?_
  refine g_if_ne (tgt := 8) dX6_runCommands_1 (by decide) (fun c_1 => ?_) (fun c_1 => ?_)
  · have hlv : (if lv = 0 then 0 else 41) = (41 : Int32) := if_neg (fun z => c_1 (by rw [z]; rfl))
    refine g_bipush 41 dX6_runCommands_8 (by rfl) ?_
    refine g_istore dX6_runCommands_10 (Nat.le_of_ble_eq_true rfl) ?_
    refine g_iconst 0 dX6_runCommands_12 (by rfl) ?_
    refine g_istore dX6_runCommands_13 (Nat.le_of_ble_eq_true rfl) ?_
    refine g_lv (loop 501 0 h S cnt cp (by omega) hw s_off3.rf ok hex rfl) ⟨rfl, rfl, rfl, rfl, ?_, rfl, trivial⟩
    rw [hlv]
    rfl
  · have hlv : (if lv = 0 then 0 else 41) = (0 : Int32) := if_pos (nI_inj (a := lv) (b := 0) (by omega) (by omega) c_1)
    refine g_iconst 0 dX6_runCommands_4 (by rfl) ?_
    refine g_goto (tgt := 10) dX6_runCommands_5 (by decide) ?_
    refine g_istore dX6_runCommands_10 (Nat.le_of_ble_eq_true rfl) ?_
    refine g_iconst 0 dX6_runCommands_12 (by rfl) ?_
    refine g_istore dX6_runCommands_13 (Nat.le_of_ble_eq_true rfl) ?_
    refine g_lv (loop 501 0 h S cnt cp (by omega) hw s_off3.rf ok hex rfl) ⟨rfl, rfl, rfl, rfl, ?_, rfl, trivial⟩
    rw [hlv]
    rfl
