/-! THE SCRIPT: its state, arguments -/
/-- disk, error's kind and offset, the place behind the token, its kind, its start, how many commands were executed -/
abbrev x_S : Type := s_D × Int32 × Int32 × Nat × Int32 × Nat × Nat
def s_sx (h : s_H) (b : Nat) (tx : Nat → Int32) (len : Nat) (S : x_S) : Prop := s_sw h b S.1 tx len S.2.1 S.2.2.1 S.2.2.2.1 S.2.2.2.2.1 S.2.2.2.2.2.1 S.2.2.2.2.2.2 ∧ S.2.2.2.2.2.1 ≤ S.2.2.2.1 ∧ S.2.2.2.1 ≤ len
def x_cn (σ : s_D) : Nat := (σ.2 0).toNatClampNeg
theorem d_ok.cn {σ : s_D} {cnt cp : Nat} (ok : d_ok σ cnt cp) : x_cn σ = cnt := by
  unfold x_cn
  rw [ok.1]
  have := ok.2.1
  exact nI_clamp (by omega)
/-- an error at the token's start -/
def x_fail (S : x_S) (k : Int32) : x_S := (S.1, k, nI S.2.2.2.2.2.1, S.2.2.2)
/-- the next token -/
def x_next (tx : Nat → Int32) (len : Nat) (S : x_S) : x_S := (S.1, S.2.1, S.2.2.1, (x_tok tx len S.2.2.2.1).1, (x_tok tx len S.2.2.2.1).2.1, (x_tok tx len S.2.2.2.1).2.2, S.2.2.2.2.2.2)
/-- an argument: its value (or -1), the state behind it -/
def x_arg (tx : Nat → Int32) (len kd : Nat) (S : x_S) : Int32 × x_S :=
  if kd = 0 then (0, S) else ((x_ar tx len S.2.2.2.1 (x_cn S.1) kd).1, if (x_ar tx len S.2.2.2.1 (x_cn S.1) kd).2 = 0 then x_next tx len S else x_fail (x_next tx len S) (x_ar tx len S.2.2.2.1 (x_cn S.1) kd).2)
theorem x_next_le {tx : Nat → Int32} {len : Nat} {S : x_S} (h : S.2.2.2.1 ≤ len) : (x_next tx len S).2.2.2.2.2.1 ≤ (x_next tx len S).2.2.2.1 ∧ (x_next tx len S).2.2.2.1 ≤ len := by
  have := x_tok_le (tx := tx) h
  exact ⟨this.1, this.2.1⟩
/-- out of a number's end -/
theorem x_rdx {h h1 : s_H} {b len cnt cp : Nat} {tx : Nat → Int32} {S : x_S} {r : Int32 × Int32} (hw : s_sx h b tx len S) (ok : d_ok S.1 cnt cp)
    (z : s_sc h1 (b + 89) tx len (if r.2 = 0 then S.2.1 else r.2) (if r.2 = 0 then S.2.2.1 else nI (x_tok tx len S.2.2.2.1).2.2) (nI (x_tok tx len S.2.2.2.1).1) (x_tok tx len S.2.2.2.1).2.1 (nI (x_tok tx len S.2.2.2.1).2.2) (nI S.2.2.2.2.2.2)) (zo : s_off h h1 (b + 89) (b + 89 + 2)) :
    s_sx h1 b tx len (if r.2 = 0 then x_next tx len S else x_fail (x_next tx len S) r.2) ∧ s_off3 h h1 b := by
  obtain ⟨⟨hsc, hD, hT⟩, htq, hq⟩ := hw
  have hb := x_tok_le (tx := tx) hq
  refine ⟨?_, s_off3.of zo (by omega)⟩
  by_cases e : r.2 = 0
  · rw [if_pos e] at z ⊢
    rw [if_pos e] at z
    exact ⟨⟨z, hD.off zo (by omega), hT.off zo (by omega)⟩, hb.1, hb.2.1⟩
  · rw [if_neg e] at z ⊢
    rw [if_neg e] at z
    exact ⟨⟨z, hD.off zo (by omega), hT.off zo (by omega)⟩, hb.1, hb.2.1⟩
theorem c_arg {h : s_H} {n b len cnt cp kd : Nat} {tx : Nat → Int32} {S : x_S} (hw : s_sx h b tx len S) (hn : b + 93 ≤ n) (ok : d_ok S.1 cnt cp) (hl : len ≤ 500) (hk : kd < 6) :
    s_Mt TX6_readArgument 0 0 [.ref (b + 89), .int (nI kd), .ref (b + 6)] h n (s_rp n (fun v9 h1 => v9 = some (.int (x_arg tx len kd S).1) ∧ s_sx h1 b tx len (x_arg tx len kd S).2 ∧ s_off3 h h1 b) s_no) := by
  have hdd := ok.hd hw.1.2.1
  have ecn := ok.cn
  match kd, hk with
  | 0, _ => exact s_Mt_mono c_X6_readArgument0 (fun o h1 n1 q => ⟨q.2.2, by obtain ⟨q1, rfl, -⟩ := q; subst q1; exact ⟨rfl, hw, s_off3.rf⟩⟩)
  | 1, _ =>
    have M := c_X6_readArgument1 (n := n) hw.1.1 (by omega) hw.2.2 hl hdd (by omega)
    refine s_Mt_mono M (fun o h1 n1 q => ⟨q.1, ?_⟩)
    rcases o with r | E
    · obtain ⟨-, q1, q2, q3⟩ := q
      have z := x_rdx (r := x_rd tx len S.2.2.2.1 0 (nI cnt - 1)) hw ok q2 q3
      unfold x_arg
      rw [if_neg (by decide), ecn]
      exact ⟨q1, z⟩
    · exact q.2
  | 2, _ =>
    have M := c_X6_readArgument2 (n := n) hw.1.1 (by omega) hw.2.2 hl hdd (by omega)
    refine s_Mt_mono M (fun o h1 n1 q => ⟨q.1, ?_⟩)
    rcases o with r | E
    · obtain ⟨-, q1, q2, q3⟩ := q
      have z := x_rdx (r := x_rd tx len S.2.2.2.1 1 60) hw ok q2 q3
      unfold x_arg
      rw [if_neg (by decide), ecn]
      exact ⟨q1, z⟩
    · exact q.2
  | 3, _ =>
    have M := c_X6_readArgument3 (n := n) hw.1.1 (by omega) hw.2.2 hl hdd (by omega)
    refine s_Mt_mono M (fun o h1 n1 q => ⟨q.1, ?_⟩)
    rcases o with r | E
    · obtain ⟨-, q1, q2, q3⟩ := q
      have z := x_rdx (r := x_rd tx len S.2.2.2.1 0 999) hw ok q2 q3
      unfold x_arg
      rw [if_neg (by decide), ecn]
      exact ⟨q1, z⟩
    · exact q.2
  | 4, _ =>
    have M := c_X6_readArgument4 (n := n) hw.1.1 (by omega) hw.2.2 hl hdd (by omega)
    refine s_Mt_mono M (fun o h1 n1 q => ⟨q.1, ?_⟩)
    rcases o with r | E
    · obtain ⟨-, q1, q2, q3⟩ := q
      have z := x_rdx (r := x_rd tx len S.2.2.2.1 0 100) hw ok q2 q3
      unfold x_arg
      rw [if_neg (by decide), ecn]
      exact ⟨q1, z⟩
    · exact q.2
  | 5, _ =>
    have M := c_X6_readArgument5 (n := n) hw.1.1 (by omega) hw.2.2 hl hdd (by omega)
    refine s_Mt_mono M (fun o h1 n1 q => ⟨q.1, ?_⟩)
    rcases o with r | E
    · obtain ⟨-, q1, q2, q3⟩ := q
      have z := x_rdx (r := x_rd tx len S.2.2.2.1 1 50) hw ok q2 q3
      unfold x_arg
      rw [if_neg (by decide), ecn]
      exact ⟨q1, z⟩
    · exact q.2
/-- the kinds of the commands' arguments -/
def x_k1 (j : Nat) : Nat := [2, 1, 1, 1, 1, 4, 5, 1, 1, 0].getD j 0
def x_k2 (j : Nat) : Nat := [3, 0, 0, 0, 0, 0, 0, 2, 3, 0].getD j 0
theorem x_k_ok : ∀ j, j < 10 → s_c1 j = nI (x_k1 j) ∧ x_k1 j < 6 ∧ s_c2 j = nI (x_k2 j) ∧ x_k2 j < 6 := by decide +kernel
