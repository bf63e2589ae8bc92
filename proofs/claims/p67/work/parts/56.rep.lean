/-! THE SCRIPT: repeat -/
theorem c_yexp {h : s_H} {n b len : Nat} {tx : Nat → Int32} {S : x_S} (hw : s_sy h b tx len S) (hn : b + 93 ≤ n) (hl : len ≤ 500) (kd : Int32) : s_Mt TX6_expect 0 0 [.ref (b + 89), .int kd] h n (s_rp n (fun v9 h1 => v9 = some (.int (if (x_next tx len S).2.2.2.2.1 = kd then 1 else 0)) ∧ s_sx h1 b tx len (if (x_next tx len S).2.2.2.2.1 = kd then x_next tx len S else x_fail (x_next tx len S) 1) ∧ s_off3 h h1 b) s_no) := by
  obtain ⟨⟨hsc, hD, hT⟩, hq⟩ := hw
  have hle := x_next_le (tx := tx) hq
  refine s_Mt_mono (c_X6_expect (n := n) hsc (by omega) hq hl kd) (fun o h1 n1 q => ⟨q.1, ?_⟩)
  rcases o with r | E
  · obtain ⟨-, q1, q2, q3⟩ := q
    refine ⟨q1, ?_, s_off3.of q3 (by omega)⟩
    by_cases e : (x_tok tx len S.2.2.2.1).2.1 = kd
    · rw [if_pos (show (x_next tx len S).2.2.2.2.1 = kd from e)]
      rw [if_pos e, if_pos e] at q2
      exact ⟨⟨q2, hD.off q3 (by omega), hT.off q3 (by omega)⟩, hle⟩
    · rw [if_neg (show ¬ (x_next tx len S).2.2.2.2.1 = kd from e)]
      rw [if_neg e, if_neg e] at q2
      exact ⟨⟨q2, hD.off q3 (by omega), hT.off q3 (by omega)⟩, hle⟩
  · exact q.2
def x_to (body : Nat) (S : x_S) : x_S := (S.1, S.2.1, S.2.2.1, body, S.2.2.2.2)
/-- a body run so many times, then the semicolon -/
def x_rpl (tx : Nat → Int32) (len : Nat) (rc : x_S → Bool × x_S) (body : Nat) : Nat → x_S → Bool × x_S
  | 0, S => if (x_next tx len S).2.2.2.2.1 = 59 then (true, x_next tx len S) else (false, x_fail (x_next tx len S) 1)
  | r + 1, S => if (rc (x_to body S)).1 = true then x_rpl tx len rc body r (rc (x_to body S)).2 else (false, (rc (x_to body S)).2)
def x_num (tx : Nat → Int32) (len : Nat) (lo hi : Int32) (S : x_S) : x_S := if (x_rd tx len S.2.2.2.1 lo hi).2 = 0 then x_next tx len S else x_fail (x_next tx len S) (x_rd tx len S.2.2.2.1 lo hi).2
/-- a repeat below the deepest level -/
def x_rpF (tx : Nat → Int32) (len : Nat) (rc : x_S → Bool × x_S) (S : x_S) : Bool × x_S :=
  if (x_rd tx len S.2.2.2.1 1 20).1 = -1 then (false, x_num tx len 1 20 S) else
  if (x_next tx len (x_num tx len 1 20 S)).2.2.2.2.1 = 40 then x_rpl tx len rc (x_next tx len (x_num tx len 1 20 S)).2.2.2.1 (x_rd tx len S.2.2.2.1 1 20).1.toNatClampNeg (x_next tx len (x_num tx len 1 20 S)) else (false, x_fail (x_next tx len (x_num tx len 1 20 S)) 1)
theorem x_num_d {tx : Nat → Int32} {len : Nat} {lo hi : Int32} {S : x_S} : (x_num tx len lo hi S).1 = S.1 ∧ (x_num tx len lo hi S).2.2.2.2.2.2 = S.2.2.2.2.2.2 := by
  unfold x_num
  split <;> exact ⟨rfl, rfl⟩
theorem x_rpl_ok {tx : Nat → Int32} {len body : Nat} {rc : x_S → Bool × x_S} (hr : x_keeps rc) : ∀ r, x_keeps (x_rpl tx len rc body r)
  | 0 => fun S cnt cp ok hex => by
    unfold x_rpl
    split
    · exact ⟨⟨_, _, ok⟩, hex⟩
    · exact ⟨⟨_, _, ok⟩, hex⟩
  | r + 1 => fun S cnt cp ok hex => by
    unfold x_rpl
    obtain ⟨⟨c2, p2, o2⟩, e2⟩ := hr (x_to body S) cnt cp ok hex
    split
    · exact x_rpl_ok hr r _ _ _ o2 e2
    · exact ⟨⟨_, _, o2⟩, e2⟩
theorem x_rpF_ok {tx : Nat → Int32} {len : Nat} {rc : x_S → Bool × x_S} (hr : x_keeps rc) : x_keeps (x_rpF tx len rc) := fun S cnt cp ok hex => by
  obtain ⟨d1, d2⟩ := x_num_d (tx := tx) (len := len) (lo := 1) (hi := 20) (S := S)
  have ok1 : d_ok (x_num tx len 1 20 S).1 cnt cp := by rw [d1]; exact ok
  have hex1 : (x_num tx len 1 20 S).2.2.2.2.2.2 ≤ 100 := by rw [d2]; exact hex
  unfold x_rpF
  split
  · exact ⟨⟨_, _, ok1⟩, hex1⟩
  · split
    · exact x_rpl_ok hr _ _ _ _ ok1 hex1
    · exact ⟨⟨_, _, ok1⟩, hex1⟩
theorem x_rp2_ok : x_keeps (fun S => (false, x_fail S 4)) := fun S cnt cp ok hex => ⟨⟨_, _, ok⟩, hex⟩

theorem c_runRepeat2 {h : s_H} {n b len k : Nat} {tx : Nat → Int32} {S : x_S} (hw : s_sx h b tx len S) (hn : b + 93 ≤ n) (hk : 0 + 1 ≤ k) : s_Mt (TX6_runRepeat k) 0 0 [.ref (b + 89), .ref (b + 6), .ref (b + 68), .int (nI 2)] h n (s_rp n (fun v9 h1 => v9 = some (.int (x_bi (false, x_fail S 4).1)) ∧ s_sy h1 b tx len (false, x_fail S 4).2 ∧ s_off3 h h1 b) s_no) := by
  have hs := hw.1.1.1
  have hx := hw.1.1.2
  refine s_Mt_of rfl (show plainName "BackupPlanner$Script" = true by decide) (by exact Nat.le_of_ble_eq_true rfl) ?_
  refine g_iload_n dX6_runRepeat_0 rfl (by rfl) ?_
  refine g_iconst 2 dX6_runRepeat_1 (by rfl) ?_
  refine g_icmp_lt (tgt := 11) dX6_runRepeat_2 (by decide) (fun c_2 => absurd c_2 (show ¬ (2 : Int32) < 2 by decide)) (fun _ => ?_)
  refine g_aload_n dX6_runRepeat_5 rfl (by rfl) ?_
  refine g_iconst 4 dX6_runRepeat_6 (by rfl) ?_
  refine g_callV_p (c_xfail hw hn 4) dX6_runRepeat_7 (mX6_fail) rfl lX6_46 iX6_fail vX6_fail hk (by omega) (by exact hs) rfl rfl rfl rfl (Nat.le_of_ble_eq_true rfl) (fun v9 h9 z9 => ?_)
  obtain ⟨rfl, hw, hoff⟩ := z9
  refine g_zreturn dX6_runRepeat_10 rfl (by decide) ?_
  exact ⟨rfl, rfl, hw.sy, hoff⟩
