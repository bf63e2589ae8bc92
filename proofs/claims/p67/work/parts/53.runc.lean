/-! THE SCRIPT: a command -/
theorem x_arg_d {tx : Nat → Int32} {len kd : Nat} {S : x_S} : (x_arg tx len kd S).2.1 = S.1 := by
  unfold x_arg
  split
  · rfl
  · dsimp only
    split <;> rfl
theorem x_rd_ok {tx : Nat → Int32} {len q : Nat} {lo hi : Int32} (h : ¬ (x_rd tx len q lo hi).1 = -1) : ¬ (x_rd tx len q lo hi).1 < lo ∧ ¬ hi < (x_rd tx len q lo hi).1 := by
  unfold x_rd at h ⊢
  split
  · rename_i hk
    rw [if_pos hk] at h
    split
    · rename_i hb
      rw [if_pos hb] at h
      exact absurd rfl h
    · rename_i hb
      exact ⟨fun z => hb (Or.inl z), fun z => hb (Or.inr z)⟩
  · rename_i hk
    rw [if_neg hk] at h
    exact absurd rfl h
theorem x_arg_1 {tx : Nat → Int32} {len cnt cp : Nat} {S : x_S} (ok : d_ok S.1 cnt cp) (h : ¬ (x_arg tx len 1 S).1 = -1) : ∃ i, (x_arg tx len 1 S).1 = nI i ∧ i < cnt := by
  have e : (x_arg tx len 1 S).1 = (x_rd tx len S.2.2.2.1 0 (nI cnt - 1)).1 := by
    unfold x_arg
    rw [if_neg (by decide), ok.cn]
    rfl
  rw [e] at h ⊢
  obtain ⟨h1, h2⟩ := x_rd_ok h
  obtain ⟨i, hi, e2⟩ := nI_of h1
  refine ⟨i, e2, Nat.lt_of_not_le fun z => h2 ?_⟩
  have hc := ok.2.1
  rw [e2]
  match cnt, z, hc with
  | 0, _, _ => exact Int32.not_le.mp (fun z => by
      have : nI i ≤ -1 := z
      rw [Int32.le_iff_toInt_le, nI_ti (by omega)] at this
      have e9 : (-1 : Int32).toInt = -1 := by decide
      omega)
  | c + 1, z, _ =>
    rw [nI_pred]
    exact nI_lt (by omega) (by omega)
theorem x_arg_5 {tx : Nat → Int32} {len : Nat} {S : x_S} (h : ¬ (x_arg tx len 5 S).1 = -1) : ∃ m, (x_arg tx len 5 S).1 = nI m ∧ m ≤ 50 := by
  have e : (x_arg tx len 5 S).1 = (x_rd tx len S.2.2.2.1 1 50).1 := by
    unfold x_arg
    rw [if_neg (by decide)]
    rfl
  rw [e] at h ⊢
  obtain ⟨h1, h2⟩ := x_rd_ok h
  obtain ⟨m, hm, e2⟩ := nI_of (x := (x_rd tx len S.2.2.2.1 1 50).1) (fun z => h1 (by rw [Int32.lt_iff_toInt_lt] at z ⊢; exact Int.lt_trans z (by decide)))
  refine ⟨m, e2, Nat.le_of_not_lt fun z => h2 ?_⟩
  rw [e2]
  exact nI_lt z hm
def x_ex1 (S : x_S) : x_S := (S.1, S.2.1, S.2.2.1, S.2.2.2.1, S.2.2.2.2.1, S.2.2.2.2.2.1, S.2.2.2.2.2.2 + 1)
/-- the command whose word the token is: whether it ran, the state behind it -/
noncomputable def x_cmd (tx : Nat → Int32) (len : Nat) (S : x_S) : Bool × x_S :=
  match x_fc tx S.2.2.2.1 S.2.2.2.2.1 S.2.2.2.2.2.1 10 0 with
  | none => (false, x_fail S 1)
  | some j => if 100 ≤ S.2.2.2.2.2.2 then (false, x_fail S 5) else
    if (x_arg tx len (x_k1 j) (x_ex1 S)).1 = -1 then (false, (x_arg tx len (x_k1 j) (x_ex1 S)).2) else
    if (x_arg tx len (x_k2 j) (x_arg tx len (x_k1 j) (x_ex1 S)).2).1 = -1 then (false, (x_arg tx len (x_k2 j) (x_arg tx len (x_k1 j) (x_ex1 S)).2).2) else
    if (x_next tx len (x_arg tx len (x_k2 j) (x_arg tx len (x_k1 j) (x_ex1 S)).2).2).2.2.2.2.1 = 59 then x_exec j (x_arg tx len (x_k1 j) (x_ex1 S)).1 (x_arg tx len (x_k2 j) (x_arg tx len (x_k1 j) (x_ex1 S)).2).1 (x_next tx len (x_arg tx len (x_k2 j) (x_arg tx len (x_k1 j) (x_ex1 S)).2).2)
    else (false, x_fail (x_next tx len (x_arg tx len (x_k2 j) (x_arg tx len (x_k1 j) (x_ex1 S)).2).2) 1)
theorem x_fc_lt {tx : Nat → Int32} {q t : Nat} {tk : Int32} : ∀ r j, j + r = 10 → ∀ k, x_fc tx q tk t r j = some k → k < 10
  | 0, j, _, k, h => by cases h
  | r + 1, j, hj, k, h => by
    unfold x_fc at h
    split at h
    · cases h; omega
    · exact x_fc_lt r (j + 1) (by omega) k h
/-- an error, in a script's world -/
theorem c_xfail {h : s_H} {n b len : Nat} {tx : Nat → Int32} {S : x_S} (hw : s_sx h b tx len S) (hn : b + 93 ≤ n) (k : Int32) : s_Mt TX6_fail 0 0 [.ref (b + 89), .int k] h n (s_rp n (fun v9 h1 => v9 = some (.int 0) ∧ s_sx h1 b tx len (x_fail S k) ∧ s_off3 h h1 b) s_no) := by
  obtain ⟨⟨hsc, hD, hT⟩, htq, hq⟩ := hw
  refine s_Mt_mono (c_X6_fail (n := n) hsc (by omega) k) (fun o h1 n1 q => ⟨q.1, ?_⟩)
  rcases o with r | E
  · obtain ⟨-, q1, q2, q3⟩ := q
    exact ⟨q1, ⟨⟨q2, hD.off q3 (by omega), hT.off q3 (by omega)⟩, htq, hq⟩, s_off3.of q3 (by omega)⟩
  · exact q.2
/-- a sign that must come -/
theorem c_xexp {h : s_H} {n b len : Nat} {tx : Nat → Int32} {S : x_S} (hw : s_sx h b tx len S) (hn : b + 93 ≤ n) (hl : len ≤ 500) (kd : Int32) : s_Mt TX6_expect 0 0 [.ref (b + 89), .int kd] h n (s_rp n (fun v9 h1 => v9 = some (.int (if (x_next tx len S).2.2.2.2.1 = kd then 1 else 0)) ∧ s_sx h1 b tx len (if (x_next tx len S).2.2.2.2.1 = kd then x_next tx len S else x_fail (x_next tx len S) 1) ∧ s_off3 h h1 b) s_no) := by
  obtain ⟨⟨hsc, hD, hT⟩, htq, hq⟩ := hw
  have hle := x_next_le (tx := tx) hq
  refine s_Mt_mono (c_X6_expect (n := n) hsc (by omega) hq hl kd) (fun o h1 n1 q => ⟨q.1, ?_⟩)
  rcases o with r | E
  · obtain ⟨-, q1, q2, q3⟩ := q
    refine ⟨q1, ?_, s_off3.of q3 (by omega)⟩
    by_cases e : (x_tok tx len S.2.2.2.1).2.1 = kd
    · rw [if_pos (show (x_next tx len S).2.2.2.2.1 = kd from e)]
      rw [if_pos e, if_pos e] at q2
      exact ⟨⟨q2, hD.off q3 (by omega), hT.off q3 (by omega)⟩, hle⟩
    · rw [if_neg (show ¬ (x_next tx len S).2.2.2.2.1 = kd from e)]
      rw [if_neg e, if_neg e] at q2
      exact ⟨⟨q2, hD.off q3 (by omega), hT.off q3 (by omega)⟩, hle⟩
  · exact q.2

theorem c_runCommand {h : s_H} {n b len cnt cp : Nat} {tx : Nat → Int32} {S : x_S} (hw : s_sx h b tx len S) (hn : b + 93 ≤ n) (ok : d_ok S.1 cnt cp) (hl : len ≤ 500) (hex9 : S.2.2.2.2.2.2 ≤ 1000) : s_Mt TX6_runCommand 0 0 [.ref (b + 89), .ref (b + 6), .ref (b + 68)] h n (s_rp n (fun v9 h1 => v9 = some (.int (x_bi (x_cmd tx len S).1)) ∧ s_sx h1 b tx len (x_cmd tx len S).2 ∧ s_off3 h h1 b) s_no) := by
  obtain ⟨hw0, htq, hq⟩ := id hw
  have hsc := hw0.1
  have hs := hsc.1
  have hx := hsc.2
  have hoff : s_off3 h h b := s_off3.rf
  refine s_Mt_of rfl (by decide) (by exact Nat.le_of_ble_eq_true rfl) ?_
  cases hfc : x_fc tx S.2.2.2.1 S.2.2.2.2.1 S.2.2.2.2.2.1 10 0 with
  | none =>
    refine g_aload_n dX6_runCommand_0 rfl (by rfl) ?_
    refine g_callV_e (c_X6_findCommand hsc (by omega) htq (by omega)) dX6_runCommand_1 (mX6_findCommand) rfl lX6_76 iX6_findCommand vX6_findCommand (by decide) (by omega) (by exact hs) rfl rfl rfl rfl (Nat.le_of_ble_eq_true rfl) ?_
    rw [hfc]
    refine g_astore_nN dX6_runCommand_4 rfl (by decide) ?_
    refine g_aload_nN dX6_runCommand_5 rfl (by rfl) ?_
    refine g_ifnonnullN dX6_runCommand_6 ?_
    refine g_aload_n dX6_runCommand_9 rfl (by rfl) ?_
    refine g_iconst 1 dX6_runCommand_10 (by rfl) ?_
    refine g_callV_p (c_xfail hw hn 1) dX6_runCommand_11 (mX6_fail) rfl lX6_46 iX6_fail vX6_fail (by decide) (by omega) (by exact hs) rfl rfl rfl rfl (Nat.le_of_ble_eq_true rfl) (fun v9 h9 z9 => ?_)
    obtain ⟨rfl, hw, hoff2⟩ := z9
    have hoff := hoff.tr hoff2
    obtain ⟨hw0, htq, hq⟩ := id hw
    have hsc := hw0.1
    have hs := hsc.1
    have hx := hsc.2
    refine g_zreturn dX6_runCommand_14 rfl (by decide) ?_
    have e : x_cmd tx len S = (false, x_fail S 1) := by unfold x_cmd; rw [hfc]
    rw [e]
    exact ⟨rfl, rfl, hw, hoff⟩
  | some j =>
    have hj : j < 10 := x_fc_lt 10 0 rfl j hfc
    obtain ⟨hk1, hk16, hk2, hk26⟩ := x_k_ok j hj
    refine g_aload_n dX6_runCommand_0 rfl (by rfl) ?_
    refine g_callV_e (c_X6_findCommand hsc (by omega) htq (by omega)) dX6_runCommand_1 (mX6_findCommand) rfl lX6_76 iX6_findCommand vX6_findCommand (by decide) (by omega) (by exact hs) rfl rfl rfl rfl (Nat.le_of_ble_eq_true rfl) ?_
    rw [hfc]
    change s_G _ _ _ _ [.ref (s_big + 100 + j)] _ _ _ _
    refine g_astore_n dX6_runCommand_4 rfl (by decide) ?_
    refine g_aload_n dX6_runCommand_5 rfl (by rfl) ?_
    refine g_ifnonnull (tgt := 15) dX6_runCommand_6 (by decide) ?_
    refine g_aload_n dX6_runCommand_15 rfl (by rfl) ?_
    refine g_getf dX6_runCommand_16 fX6_34 (by exact hs) (by omega) (by rfl) ?_
    refine g_bipush 100 dX6_runCommand_19 (by rfl) ?_
    refine g_icmp_lt (tgt := 30) dX6_runCommand_21 (by decide) (fun c_21 => ?_) (fun c_21 => ?_)
    · have hex : ¬ 100 ≤ S.2.2.2.2.2.2 := fun z => absurd (show nI 100 ≤ nI S.2.2.2.2.2.2 from nI_le z (by omega)) (Int32.not_le.mpr c_21)
      refine g_aload_n dX6_runCommand_30 rfl (by rfl) ?_
      refine g_dup dX6_runCommand_31 (by rfl) ?_
      refine g_getf dX6_runCommand_32 fX6_34 (by exact hs) (by omega) (by rfl) ?_
      refine g_iconst 1 dX6_runCommand_35 (by rfl) ?_
      refine g_iadd dX6_runCommand_36 ?_
      rw [nI_1]
      refine g_putf' dX6_runCommand_37 pX6_34 (by exact hs) (by omega) (by exact Nat.le_of_ble_eq_true rfl) (by rfl) (by rfl) (fun h1 e1 => ?_)
      first | have hs_1 := s_up_off e1 (by omega) hs | have hs_1 := s_up_at e1
      first | have hx_1 := s_up_off e1 (by omega) hx | have hx_1 := s_up_at e1
      have qoff : s_off h h1 (b + 89) (b + 91) := s_off.rf.up e1 (by omega)
      have hw : s_sx h1 b tx len (x_ex1 S) := ⟨⟨⟨hs_1, hx_1⟩, hw0.2.1.off qoff (by omega), hw0.2.2.off qoff (by omega)⟩, htq, hq⟩
      have hoff := hoff.tr (s_off3.of qoff (by omega))
      obtain ⟨hw0, htq, hq⟩ := id hw
      have hsc := hw0.1
      have hs := hsc.1
      have hx := hsc.2
      refine g_aload_n dX6_runCommand_40 rfl (by rfl) ?_
      refine g_aload_n dX6_runCommand_41 rfl (by rfl) ?_
      refine g_kfst hj rfl dX6_runCommand_42 ?_
      rw [hk1]
      refine g_aload_n dX6_runCommand_45 rfl (by rfl) ?_
      refine g_callV_p (c_arg hw hn ok hl hk16) dX6_runCommand_46 (mX6_readArgument) rfl lX6_85 iX6_readArgument vX6_readArgument (by decide) (by omega) (by exact hs) rfl rfl rfl rfl (Nat.le_of_ble_eq_true rfl) (fun v9 h9 z9 => ?_)
      obtain ⟨rfl, hw, hoff2⟩ := z9
      have hoff := hoff.tr hoff2
      obtain ⟨hw0, htq, hq⟩ := id hw
      have hsc := hw0.1
      have hs := hsc.1
      have hx := hsc.2
      have ok1 : d_ok (x_arg tx len (x_k1 j) (x_ex1 S)).2.1 cnt cp := by rw [x_arg_d]; exact ok
      refine g_istore dX6_runCommand_49 (by decide) ?_
      refine g_iload dX6_runCommand_51 (by rfl) ?_
      refine g_iconst (-1) dX6_runCommand_53 (by rfl) ?_
      refine g_icmp_ne (tgt := 59) dX6_runCommand_54 (by decide) (fun c_54 => ?_) (fun c_54 => ?_)
      · refine g_aload_n dX6_runCommand_59 rfl (by rfl) ?_
        refine g_aload_n dX6_runCommand_60 rfl (by rfl) ?_
        refine g_ksnd hj rfl dX6_runCommand_61 ?_
        rw [hk2]
        refine g_aload_n dX6_runCommand_64 rfl (by rfl) ?_
        refine g_callV_p (c_arg hw hn ok1 hl hk26) dX6_runCommand_65 (mX6_readArgument) rfl lX6_85 iX6_readArgument vX6_readArgument (by decide) (by omega) (by exact hs) rfl rfl rfl rfl (Nat.le_of_ble_eq_true rfl) (fun v9 h9 z9 => ?_)
        obtain ⟨rfl, hw, hoff2⟩ := z9
        have hoff := hoff.tr hoff2
        obtain ⟨hw0, htq, hq⟩ := id hw
        have hsc := hw0.1
        have hs := hsc.1
        have hx := hsc.2
        have ok2 : d_ok (x_arg tx len (x_k2 j) (x_arg tx len (x_k1 j) (x_ex1 S)).2).2.1 cnt cp := by rw [x_arg_d]; exact ok1
        refine g_istore dX6_runCommand_68 (by decide) ?_
        refine g_iload dX6_runCommand_70 (by rfl) ?_
        refine g_iconst (-1) dX6_runCommand_72 (by rfl) ?_
        refine g_icmp_eq (tgt := 85) dX6_runCommand_73 (by decide) (fun c_73 => ?_) (fun c_73 => ?_)
        · have e : x_cmd tx len S = (false, (x_arg tx len (x_k2 j) (x_arg tx len (x_k1 j) (x_ex1 S)).2).2) := by unfold x_cmd; rw [hfc]; dsimp only; rw [if_neg hex, if_neg c_54, if_pos c_73]
          refine g_iconst 0 dX6_runCommand_85 (by rfl) ?_
          refine g_zreturn dX6_runCommand_86 rfl (by decide) ?_
          rw [e]
          exact ⟨rfl, rfl, hw, hoff⟩
        · refine g_aload_n dX6_runCommand_76 rfl (by rfl) ?_
          refine g_bipush 59 dX6_runCommand_77 (by rfl) ?_
          refine g_callV_p (c_xexp hw hn hl 59) dX6_runCommand_79 (mX6_expect) rfl lX6_54 iX6_expect vX6_expect (by decide) (by omega) (by exact hs) rfl rfl rfl rfl (Nat.le_of_ble_eq_true rfl) (fun v9 h9 z9 => ?_)
          obtain ⟨rfl, hw, hoff2⟩ := z9
          have hoff := hoff.tr hoff2
          obtain ⟨hw0, htq, hq⟩ := id hw
          have hsc := hw0.1
          have hs := hsc.1
          have hx := hsc.2
          refine g_if_ne (tgt := 87) dX6_runCommand_82 (by decide) (fun c_82 => ?_) (fun c_82 => ?_)
          · have h59 : (x_next tx len (x_arg tx len (x_k2 j) (x_arg tx len (x_k1 j) (x_ex1 S)).2).2).2.2.2.2.1 = 59 := Classical.byContradiction fun z => c_82 (by rw [if_neg z])
            rw [if_pos h59] at hw
            have ok3 : d_ok (x_next tx len (x_arg tx len (x_k2 j) (x_arg tx len (x_k1 j) (x_ex1 S)).2).2).1 cnt cp := ok2
            refine g_aload_n dX6_runCommand_87 rfl (by rfl) ?_
            refine g_aload_n dX6_runCommand_88 rfl (by rfl) ?_
            refine g_iload dX6_runCommand_89 (by rfl) ?_
            refine g_iload dX6_runCommand_91 (by rfl) ?_
            refine g_aload_n dX6_runCommand_93 rfl (by rfl) ?_
            refine g_aload_n dX6_runCommand_94 rfl (by rfl) ?_
            refine g_callV_p (c_exec hw hn ok3 hj (fun z => by rw [z] at c_54 ⊢; exact x_arg_1 (S := x_ex1 S) ok c_54) (fun z => by subst z; exact x_arg_5 c_54)) dX6_runCommand_95 (mX6_execute) rfl lX6_92 iX6_execute vX6_execute (by decide) (by omega) (by exact hs) rfl rfl rfl rfl (Nat.le_of_ble_eq_true rfl) (fun v9 h9 z9 => ?_)
            obtain ⟨rfl, hw, hoff2⟩ := z9
            have hoff := hoff.tr hoff2
            obtain ⟨hw0, htq, hq⟩ := id hw
            have hsc := hw0.1
            have hs := hsc.1
            have hx := hsc.2
            refine g_zreturn dX6_runCommand_98 rfl (by unfold x_bi; split <;> first | exact Or.inl rfl | exact Or.inr rfl) ?_
            have e : x_cmd tx len S = x_exec j (x_arg tx len (x_k1 j) (x_ex1 S)).1 (x_arg tx len (x_k2 j) (x_arg tx len (x_k1 j) (x_ex1 S)).2).1 (x_next tx len (x_arg tx len (x_k2 j) (x_arg tx len (x_k1 j) (x_ex1 S)).2).2) := by unfold x_cmd; rw [hfc]; dsimp only; rw [if_neg hex, if_neg c_54, if_neg c_73, if_pos h59]
            rw [e]
            exact ⟨rfl, rfl, hw, hoff⟩
          · have h59 : ¬ (x_next tx len (x_arg tx len (x_k2 j) (x_arg tx len (x_k1 j) (x_ex1 S)).2).2).2.2.2.2.1 = 59 := fun z => by rw [if_pos z] at c_82; exact absurd c_82 (by decide)
            rw [if_neg h59] at hw
            have e : x_cmd tx len S = (false, x_fail (x_next tx len (x_arg tx len (x_k2 j) (x_arg tx len (x_k1 j) (x_ex1 S)).2).2) 1) := by unfold x_cmd; rw [hfc]; dsimp only; rw [if_neg hex, if_neg c_54, if_neg c_73, if_neg h59]
            refine g_iconst 0 dX6_runCommand_85 (by rfl) ?_
            refine g_zreturn dX6_runCommand_86 rfl (by decide) ?_
            rw [e]
            exact ⟨rfl, rfl, hw, hoff⟩
      · refine g_iconst 0 dX6_runCommand_57 (by rfl) ?_
        refine g_zreturn dX6_runCommand_58 rfl (by decide) ?_
        have e : x_cmd tx len S = (false, (x_arg tx len (x_k1 j) (x_ex1 S)).2) := by unfold x_cmd; rw [hfc]; dsimp only; rw [if_neg hex, if_pos c_54]
        rw [e]
        exact ⟨rfl, rfl, hw, hoff⟩
    · have hex : 100 ≤ S.2.2.2.2.2.2 := Nat.le_of_not_lt fun z => c_21 (show nI S.2.2.2.2.2.2 < nI 100 from nI_lt z (by omega))
      refine g_aload_n dX6_runCommand_24 rfl (by rfl) ?_
      refine g_iconst 5 dX6_runCommand_25 (by rfl) ?_
      refine g_callV_p (c_xfail hw hn 5) dX6_runCommand_26 (mX6_fail) rfl lX6_46 iX6_fail vX6_fail (by decide) (by omega) (by exact hs) rfl rfl rfl rfl (Nat.le_of_ble_eq_true rfl) (fun v9 h9 z9 => ?_)
      obtain ⟨rfl, hw, hoff2⟩ := z9
      have hoff := hoff.tr hoff2
      obtain ⟨hw0, htq, hq⟩ := id hw
      have hsc := hw0.1
      have hs := hsc.1
      have hx := hsc.2
      refine g_zreturn dX6_runCommand_29 rfl (by decide) ?_
      have e : x_cmd tx len S = (false, x_fail S 5) := by unfold x_cmd; rw [hfc]; dsimp only; rw [if_pos hex]
      rw [e]
      exact ⟨rfl, rfl, hw, hoff⟩
