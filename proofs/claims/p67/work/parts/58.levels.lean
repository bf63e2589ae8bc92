/-! THE SCRIPT: its three levels -/
def x_rp2 : x_S → Bool × x_S := fun S => (false, x_fail S 4)
noncomputable def x_rc2 (tx : Nat → Int32) (len : Nat) : x_S → Bool × x_S := x_rcF tx len x_rp2 (if (2 : Nat) = 0 then 0 else 41) 501
noncomputable def x_rp1 (tx : Nat → Int32) (len : Nat) : x_S → Bool × x_S := x_rpF tx len (x_rc2 tx len)
noncomputable def x_rc1 (tx : Nat → Int32) (len : Nat) : x_S → Bool × x_S := x_rcF tx len (x_rp1 tx len) (if (1 : Nat) = 0 then 0 else 41) 501
noncomputable def x_rp0 (tx : Nat → Int32) (len : Nat) : x_S → Bool × x_S := x_rpF tx len (x_rc1 tx len)
noncomputable def x_rc0 (tx : Nat → Int32) (len : Nat) : x_S → Bool × x_S := x_rcF tx len (x_rp0 tx len) (if (0 : Nat) = 0 then 0 else 41) 501
theorem x_rc2_ok {tx : Nat → Int32} {len : Nat} : x_keeps (x_rc2 tx len) := x_rcF_ok x_rp2_ok 501
theorem x_rc1_ok {tx : Nat → Int32} {len : Nat} : x_keeps (x_rc1 tx len) := x_rcF_ok (x_rpF_ok x_rc2_ok) 501
theorem x_rc0_ok {tx : Nat → Int32} {len : Nat} : x_keeps (x_rc0 tx len) := x_rcF_ok (x_rpF_ok x_rc1_ok) 501
theorem c_rc2 {n b len : Nat} {tx : Nat → Int32} (hn : b + 93 ≤ n) (hl : len ≤ 500) (h : s_H) (S : x_S) (cnt cp : Nat) (hw : s_sy h b tx len S) (ok : d_ok S.1 cnt cp) (hex : S.2.2.2.2.2.2 ≤ 100) : s_Mt (TX6_runCommands 9) 0 0 [.ref (b + 89), .ref (b + 6), .ref (b + 68), .int (nI 2)] h n (s_rp n (fun v9 h1 => v9 = some (.int (x_bi (x_rc2 tx len S).1)) ∧ s_sy h1 b tx len (x_rc2 tx len S).2 ∧ s_off3 h h1 b) s_no) :=
  c_runCommands (rp := x_rp2) (kr := 8) (lv := 2) (fun h S cnt cp hw ok hex => c_runRepeat2 hw hn (by omega)) x_rp2_ok (by omega) (by omega) (by omega) hw hn ok hl hex
theorem c_rc1 {n b len : Nat} {tx : Nat → Int32} (hn : b + 93 ≤ n) (hl : len ≤ 500) (h : s_H) (S : x_S) (cnt cp : Nat) (hw : s_sy h b tx len S) (ok : d_ok S.1 cnt cp) (hex : S.2.2.2.2.2.2 ≤ 100) : s_Mt (TX6_runCommands 11) 0 0 [.ref (b + 89), .ref (b + 6), .ref (b + 68), .int (nI 1)] h n (s_rp n (fun v9 h1 => v9 = some (.int (x_bi (x_rc1 tx len S).1)) ∧ s_sy h1 b tx len (x_rc1 tx len S).2 ∧ s_off3 h h1 b) s_no) :=
  c_runCommands (rp := x_rp1 tx len) (kr := 10) (lv := 1) (fun h S cnt cp hw ok hex => c_runRepeatL (kc := 9) (lv := 1) (c_rc2 hn hl) x_rc2_ok (by omega) (by omega) (by omega) hw hn ok hl hex) (x_rpF_ok x_rc2_ok) (by omega) (by omega) (by omega) hw hn ok hl hex
theorem c_rc0 {n b len : Nat} {tx : Nat → Int32} (hn : b + 93 ≤ n) (hl : len ≤ 500) (h : s_H) (S : x_S) (cnt cp : Nat) (hw : s_sy h b tx len S) (ok : d_ok S.1 cnt cp) (hex : S.2.2.2.2.2.2 ≤ 100) : s_Mt (TX6_runCommands 13) 0 0 [.ref (b + 89), .ref (b + 6), .ref (b + 68), .int (nI 0)] h n (s_rp n (fun v9 h1 => v9 = some (.int (x_bi (x_rc0 tx len S).1)) ∧ s_sy h1 b tx len (x_rc0 tx len S).2 ∧ s_off3 h h1 b) s_no) :=
  c_runCommands (rp := x_rp0 tx len) (kr := 12) (lv := 0) (fun h S cnt cp hw ok hex => c_runRepeatL (kc := 11) (lv := 0) (c_rc1 hn hl) x_rc1_ok (by omega) (by omega) (by omega) hw hn ok hl hex) (x_rpF_ok x_rc1_ok) (by omega) (by omega) (by omega) hw hn ok hl hex
