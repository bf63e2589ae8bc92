/-! THE SCRIPT: commands' words, arguments -/
/-- the command whose word the token is -/
def x_fc (tx : Nat → Int32) (q : Nat) (tk : Int32) (t : Nat) : Nat → Nat → Option Nat
  | 0, _ => none
  | r + 1, j => if x_is tx q tk t (2 + j) then some j else x_fc tx q tk t r (j + 1)
def x_fv : Option Nat → Value
  | none => .null
  | some j => .ref (s_big + 100 + j)
/-- what an argument of a kind is: its value (or -1), the error's kind; the place behind it -/
def x_ar (tx : Nat → Int32) (len q cnt : Nat) (kd : Nat) : Int32 × Int32 :=
  match kd with
  | 1 => x_rd tx len q 0 (nI cnt - 1)
  | 2 => x_rd tx len q 1 60
  | 3 => x_rd tx len q 0 999
  | 4 => x_rd tx len q 0 100
  | 5 => x_rd tx len q 1 50
  | _ => (0, 0)

theorem c_X6_findCommand {h : s_H} {n s len q t : Nat} {tx : Nat → Int32} {ek eo tk ex : Int32} (hsc : s_sc h s tx len ek eo (nI q) tk (nI t) ex) (hn : s + 1 < n) (htq : t ≤ q) (hq : q ≤ 500) : s_Mt TX6_findCommand 0 0 [.ref s] h n (s_re (some (x_fv (x_fc tx q tk t 10 0))) h n) := by
  have hs := hsc.1
  have hx := hsc.2
  have loop : ∀ (r j : Nat), j + r = 10 → x_fc tx q tk t 10 0 = x_fc tx q tk t r j → s_G TX6_findCommand (s_re (some (x_fv (x_fc tx q tk t 10 0))) h n) 2 (s_lvs [(0, .ref s), (1, .int (nI j))]) [] h n 0 0 := by
    intro r
    induction r with
    | zero =>
      intro j hj hm
      obtain rfl : j = 10 := by omega
      refine g_iload_n dX6_findCommand_2 rfl (by rfl) ?_
      refine g_kcmds rfl dX6_findCommand_3 ?_
      refine g_kclen dX6_findCommand_6 ?_
      refine g_icmp_ge (tgt := 37) dX6_findCommand_7 (by decide) (fun _ => ?_) (fun c_7 => absurd (show (10 : Int32) ≤ nI 10 by decide) c_7)
      refine g_null dX6_findCommand_37 ?_
      exact g_ret (some .null) ⟨dX6_findCommand_38, _, rfl, Or.inl ⟨_, rfl⟩⟩ ⟨by rw [hm]; rfl, rfl, rfl⟩
    | succ r ih =>
      intro j hj hm
      refine g_iload_n dX6_findCommand_2 rfl (by rfl) ?_
      refine g_kcmds rfl dX6_findCommand_3 ?_
      refine g_kclen dX6_findCommand_6 ?_
      refine g_icmp_ge (tgt := 37) dX6_findCommand_7 (by decide) (fun c_7 => absurd c_7 (show ¬ nI 10 ≤ nI j from nI_ge (by omega) (by omega))) (fun _ => ?_)
      refine g_aload_n dX6_findCommand_10 rfl (by rfl) ?_
      refine g_kcmds rfl dX6_findCommand_11 ?_
      refine g_iload_n dX6_findCommand_14 rfl (by rfl) ?_
      refine g_kcat (j := j) (by omega) rfl dX6_findCommand_15 ?_
      refine g_kword (by omega) rfl dX6_findCommand_16 ?_
      rw [show s_big + 2 + j = s_big + (2 + j) from Nat.add_assoc _ _ _]
      refine g_callV_e (c_X6_isWord (i := 2 + j) hsc hn htq hq (by omega)) dX6_findCommand_19 (mX6_isWord) rfl lX6_42 iX6_isWord vX6_isWord (by decide) (by omega) (by exact hs) rfl rfl rfl rfl (Nat.le_of_ble_eq_true rfl) ?_
      refine g_if_eq (tgt := 31) dX6_findCommand_22 (by decide) (fun c_22 => ?_) (fun c_22 => ?_)
      · have hb : ¬ x_is tx q tk t (2 + j) = true := fun z => by rw [z] at c_22; exact absurd c_22 (by decide)
        refine g_iinc (nI (j + 1)) dX6_findCommand_31 (by rfl) (nI_inc j) ?_
        refine g_goto (tgt := 2) dX6_findCommand_34 (by decide) ?_
        exact g_lv (ih (j + 1) (by omega) (by rw [hm]; simp only [x_fc]; rw [if_neg hb])) ⟨rfl, rfl, trivial⟩
      · have hb : x_is tx q tk t (2 + j) = true := by
          cases z : x_is tx q tk t (2 + j)
          · rw [z] at c_22; exact absurd rfl c_22
          · rfl
        refine g_kcmds rfl dX6_findCommand_25 ?_
        refine g_iload_n dX6_findCommand_28 rfl (by rfl) ?_
        refine g_kcat (j := j) (by omega) rfl dX6_findCommand_29 ?_
        exact g_ret (some (.ref (s_big + 100 + j))) ⟨dX6_findCommand_30, _, rfl, Or.inl ⟨_, rfl⟩⟩ ⟨by rw [hm]; simp only [x_fc]; rw [if_pos hb]; rfl, rfl, rfl⟩
  refine s_Mt_of rfl (by decide) (by exact Nat.le_of_ble_eq_true rfl) ?_
  refine g_iconst 0 dX6_findCommand_0 (by rfl) ?_
  refine g_istore_n dX6_findCommand_1 rfl (by decide) ?_
  exact g_lv (loop 10 0 (by omega) rfl) ⟨rfl, rfl, trivial⟩

theorem c_X6_readArgument1 {h : s_H} {n s len q : Nat} {tx : Nat → Int32} {ek eo tk ts ex : Int32} (hsc : s_sc h s tx len ek eo (nI q) tk ts ex) (hn : s + 1 < n) (hq : q ≤ len) (hl : len ≤ 500) {d cnt : Nat} {v1 v2 v3 v4 : Int32} (hdd : h d = .inr (0, [.ref (d + 1), .ref (d + 2), .ref (d + 3), .ref (d + 4), .int (nI cnt), .int v1, .int v2, .int v3, .int v4])) (hnd : d < n) : s_Mt TX6_readArgument 0 0 [.ref s, .int 1, .ref d] h n (s_rp n (fun v9 h1 => v9 = some (.int (x_rd tx len q 0 (nI cnt - 1)).1) ∧ s_sc h1 s tx len (if (x_rd tx len q 0 (nI cnt - 1)).2 = 0 then ek else (x_rd tx len q 0 (nI cnt - 1)).2) (if (x_rd tx len q 0 (nI cnt - 1)).2 = 0 then eo else nI (x_tok tx len q).2.2) (nI (x_tok tx len q).1) (x_tok tx len q).2.1 (nI (x_tok tx len q).2.2) ex ∧ s_off h h1 s (s + 2)) s_no) := by
  have hs := hsc.1
  have hx := hsc.2
  refine s_Mt_of rfl (by decide) (by exact Nat.le_of_ble_eq_true rfl) ?_
  refine g_iload_n dX6_readArgument_0 rfl (by rfl) ?_
  refine g_tabIn (tgt := 36) (off := 35) dX6_readArgument_1 (by decide) (by decide) (by decide) (by decide) ?_
  refine g_aload_n dX6_readArgument_36 rfl (by rfl) ?_
  refine g_iconst 0 dX6_readArgument_37 (by rfl) ?_
  refine g_aload_n dX6_readArgument_38 rfl (by rfl) ?_
  refine g_getf dX6_readArgument_39 fX6_114 (by exact hdd) (by omega) (by rfl) ?_
  refine g_iconst 1 dX6_readArgument_42 (by rfl) ?_
  refine g_isub dX6_readArgument_43 ?_
  refine g_callV_p (c_X6_readNumber hsc hn hq hl 0 (nI cnt - 1)) dX6_readArgument_44 (mX6_readNumber) rfl lX6_50 iX6_readNumber vX6_readNumber (by decide) (by omega) (by exact hs) rfl rfl rfl rfl (Nat.le_of_ble_eq_true rfl) (fun v9 h9 z9 => ?_)
  obtain ⟨rfl, z9⟩ := z9
  refine g_ireturn dX6_readArgument_47 rfl ?_
  exact ⟨rfl, rfl, z9⟩

theorem c_X6_readArgument2 {h : s_H} {n s len q : Nat} {tx : Nat → Int32} {ek eo tk ts ex : Int32} (hsc : s_sc h s tx len ek eo (nI q) tk ts ex) (hn : s + 1 < n) (hq : q ≤ len) (hl : len ≤ 500) {d cnt : Nat} {v1 v2 v3 v4 : Int32} (hdd : h d = .inr (0, [.ref (d + 1), .ref (d + 2), .ref (d + 3), .ref (d + 4), .int (nI cnt), .int v1, .int v2, .int v3, .int v4])) (hnd : d < n) : s_Mt TX6_readArgument 0 0 [.ref s, .int 2, .ref d] h n (s_rp n (fun v9 h1 => v9 = some (.int (x_rd tx len q 1 60).1) ∧ s_sc h1 s tx len (if (x_rd tx len q 1 60).2 = 0 then ek else (x_rd tx len q 1 60).2) (if (x_rd tx len q 1 60).2 = 0 then eo else nI (x_tok tx len q).2.2) (nI (x_tok tx len q).1) (x_tok tx len q).2.1 (nI (x_tok tx len q).2.2) ex ∧ s_off h h1 s (s + 2)) s_no) := by
  have hs := hsc.1
  have hx := hsc.2
  refine s_Mt_of rfl (by decide) (by exact Nat.le_of_ble_eq_true rfl) ?_
  refine g_iload_n dX6_readArgument_0 rfl (by rfl) ?_
  refine g_tabIn (tgt := 48) (off := 47) dX6_readArgument_1 (by decide) (by decide) (by decide) (by decide) ?_
  refine g_aload_n dX6_readArgument_48 rfl (by rfl) ?_
  refine g_iconst 1 dX6_readArgument_49 (by rfl) ?_
  refine g_bipush 60 dX6_readArgument_50 (by rfl) ?_
  refine g_callV_p (c_X6_readNumber hsc hn hq hl 1 60) dX6_readArgument_52 (mX6_readNumber) rfl lX6_50 iX6_readNumber vX6_readNumber (by decide) (by omega) (by exact hs) rfl rfl rfl rfl (Nat.le_of_ble_eq_true rfl) (fun v9 h9 z9 => ?_)
  obtain ⟨rfl, z9⟩ := z9
  refine g_ireturn dX6_readArgument_55 rfl ?_
  exact ⟨rfl, rfl, z9⟩

theorem c_X6_readArgument3 {h : s_H} {n s len q : Nat} {tx : Nat → Int32} {ek eo tk ts ex : Int32} (hsc : s_sc h s tx len ek eo (nI q) tk ts ex) (hn : s + 1 < n) (hq : q ≤ len) (hl : len ≤ 500) {d cnt : Nat} {v1 v2 v3 v4 : Int32} (hdd : h d = .inr (0, [.ref (d + 1), .ref (d + 2), .ref (d + 3), .ref (d + 4), .int (nI cnt), .int v1, .int v2, .int v3, .int v4])) (hnd : d < n) : s_Mt TX6_readArgument 0 0 [.ref s, .int 3, .ref d] h n (s_rp n (fun v9 h1 => v9 = some (.int (x_rd tx len q 0 999).1) ∧ s_sc h1 s tx len (if (x_rd tx len q 0 999).2 = 0 then ek else (x_rd tx len q 0 999).2) (if (x_rd tx len q 0 999).2 = 0 then eo else nI (x_tok tx len q).2.2) (nI (x_tok tx len q).1) (x_tok tx len q).2.1 (nI (x_tok tx len q).2.2) ex ∧ s_off h h1 s (s + 2)) s_no) := by
  have hs := hsc.1
  have hx := hsc.2
  refine s_Mt_of rfl (by decide) (by exact Nat.le_of_ble_eq_true rfl) ?_
  refine g_iload_n dX6_readArgument_0 rfl (by rfl) ?_
  refine g_tabIn (tgt := 56) (off := 55) dX6_readArgument_1 (by decide) (by decide) (by decide) (by decide) ?_
  refine g_aload_n dX6_readArgument_56 rfl (by rfl) ?_
  refine g_iconst 0 dX6_readArgument_57 (by rfl) ?_
  refine g_sipush 999 dX6_readArgument_58 (by rfl) ?_
  refine g_callV_p (c_X6_readNumber hsc hn hq hl 0 999) dX6_readArgument_61 (mX6_readNumber) rfl lX6_50 iX6_readNumber vX6_readNumber (by decide) (by omega) (by exact hs) rfl rfl rfl rfl (Nat.le_of_ble_eq_true rfl) (fun v9 h9 z9 => ?_)
  obtain ⟨rfl, z9⟩ := z9
  refine g_ireturn dX6_readArgument_64 rfl ?_
  exact ⟨rfl, rfl, z9⟩

theorem c_X6_readArgument4 {h : s_H} {n s len q : Nat} {tx : Nat → Int32} {ek eo tk ts ex : Int32} (hsc : s_sc h s tx len ek eo (nI q) tk ts ex) (hn : s + 1 < n) (hq : q ≤ len) (hl : len ≤ 500) {d cnt : Nat} {v1 v2 v3 v4 : Int32} (hdd : h d = .inr (0, [.ref (d + 1), .ref (d + 2), .ref (d + 3), .ref (d + 4), .int (nI cnt), .int v1, .int v2, .int v3, .int v4])) (hnd : d < n) : s_Mt TX6_readArgument 0 0 [.ref s, .int 4, .ref d] h n (s_rp n (fun v9 h1 => v9 = some (.int (x_rd tx len q 0 100).1) ∧ s_sc h1 s tx len (if (x_rd tx len q 0 100).2 = 0 then ek else (x_rd tx len q 0 100).2) (if (x_rd tx len q 0 100).2 = 0 then eo else nI (x_tok tx len q).2.2) (nI (x_tok tx len q).1) (x_tok tx len q).2.1 (nI (x_tok tx len q).2.2) ex ∧ s_off h h1 s (s + 2)) s_no) := by
  have hs := hsc.1
  have hx := hsc.2
  refine s_Mt_of rfl (by decide) (by exact Nat.le_of_ble_eq_true rfl) ?_
  refine g_iload_n dX6_readArgument_0 rfl (by rfl) ?_
  refine g_tabIn (tgt := 65) (off := 64) dX6_readArgument_1 (by decide) (by decide) (by decide) (by decide) ?_
  refine g_aload_n dX6_readArgument_65 rfl (by rfl) ?_
  refine g_iconst 0 dX6_readArgument_66 (by rfl) ?_
  refine g_bipush 100 dX6_readArgument_67 (by rfl) ?_
  refine g_callV_p (c_X6_readNumber hsc hn hq hl 0 100) dX6_readArgument_69 (mX6_readNumber) rfl lX6_50 iX6_readNumber vX6_readNumber (by decide) (by omega) (by exact hs) rfl rfl rfl rfl (Nat.le_of_ble_eq_true rfl) (fun v9 h9 z9 => ?_)
  obtain ⟨rfl, z9⟩ := z9
  refine g_ireturn dX6_readArgument_72 rfl ?_
  exact ⟨rfl, rfl, z9⟩

theorem c_X6_readArgument5 {h : s_H} {n s len q : Nat} {tx : Nat → Int32} {ek eo tk ts ex : Int32} (hsc : s_sc h s tx len ek eo (nI q) tk ts ex) (hn : s + 1 < n) (hq : q ≤ len) (hl : len ≤ 500) {d cnt : Nat} {v1 v2 v3 v4 : Int32} (hdd : h d = .inr (0, [.ref (d + 1), .ref (d + 2), .ref (d + 3), .ref (d + 4), .int (nI cnt), .int v1, .int v2, .int v3, .int v4])) (hnd : d < n) : s_Mt TX6_readArgument 0 0 [.ref s, .int 5, .ref d] h n (s_rp n (fun v9 h1 => v9 = some (.int (x_rd tx len q 1 50).1) ∧ s_sc h1 s tx len (if (x_rd tx len q 1 50).2 = 0 then ek else (x_rd tx len q 1 50).2) (if (x_rd tx len q 1 50).2 = 0 then eo else nI (x_tok tx len q).2.2) (nI (x_tok tx len q).1) (x_tok tx len q).2.1 (nI (x_tok tx len q).2.2) ex ∧ s_off h h1 s (s + 2)) s_no) := by
  have hs := hsc.1
  have hx := hsc.2
  refine s_Mt_of rfl (by decide) (by exact Nat.le_of_ble_eq_true rfl) ?_
  refine g_iload_n dX6_readArgument_0 rfl (by rfl) ?_
  refine g_tabIn (tgt := 73) (off := 72) dX6_readArgument_1 (by decide) (by decide) (by decide) (by decide) ?_
  refine g_aload_n dX6_readArgument_73 rfl (by rfl) ?_
  refine g_iconst 1 dX6_readArgument_74 (by rfl) ?_
  refine g_bipush 50 dX6_readArgument_75 (by rfl) ?_
  refine g_callV_p (c_X6_readNumber hsc hn hq hl 1 50) dX6_readArgument_77 (mX6_readNumber) rfl lX6_50 iX6_readNumber vX6_readNumber (by decide) (by omega) (by exact hs) rfl rfl rfl rfl (Nat.le_of_ble_eq_true rfl) (fun v9 h9 z9 => ?_)
  obtain ⟨rfl, z9⟩ := z9
  refine g_ireturn dX6_readArgument_80 rfl ?_
  exact ⟨rfl, rfl, z9⟩

theorem c_X6_readArgument0 {h : s_H} {n s d : Nat} : s_Mt TX6_readArgument 0 0 [.ref s, .int 0, .ref d] h n (s_re (some (.int 0)) h n) := by
  refine s_Mt_of rfl (by decide) (by exact Nat.le_of_ble_eq_true rfl) ?_
  refine g_iload_n dX6_readArgument_0 rfl (by rfl) ?_
  refine g_tabOut (tgt := 81) dX6_readArgument_1 (by decide) (by decide) ?_
  refine g_iconst 0 dX6_readArgument_81 (by rfl) ?_
  refine g_ireturn dX6_readArgument_82 rfl ?_
  exact ⟨rfl, rfl, rfl⟩
