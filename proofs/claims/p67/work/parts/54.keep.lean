/-! what the disk keeps to is kept -/
def d_io (σ : s_D) (i : Nat) : Prop := (∃ s, σ.1 0 i = nI s ∧ 1 ≤ s ∧ s ≤ 60) ∧ (∃ v, σ.1 1 i = nI v ∧ v ≤ 999) ∧ (∃ a, σ.1 2 i = nI a ∧ a ≤ 9) ∧ ∃ st, σ.1 3 i = nI st ∧ st ≤ 2
theorem d_ok.io {σ : s_D} {cnt cp i : Nat} (ok : d_ok σ cnt cp) (hi : i < cnt) : d_io σ i := ok.2.2.2.2 i hi
theorem d_ok.put0 {σ : s_D} {cnt cp i s : Nat} (ok : d_ok σ cnt cp) (h1 : 1 ≤ s) (h2 : s ≤ 60) : d_ok (d_put σ 0 i (nI s)) cnt cp := by
  refine ⟨ok.1, ok.2.1, ok.2.2.1, ok.2.2.2.1, fun j hj => ?_⟩
  obtain ⟨a1, a2, a3, a4⟩ := ok.io hj
  refine ⟨?_, a2, a3, a4⟩
  show ∃ z, (if j = i then nI s else σ.1 0 j) = nI z ∧ 1 ≤ z ∧ z ≤ 60
  by_cases e : j = i
  · rw [if_pos e]; exact ⟨s, rfl, h1, h2⟩
  · rw [if_neg e]; exact a1
theorem d_ok.put1 {σ : s_D} {cnt cp i v : Nat} (ok : d_ok σ cnt cp) (h2 : v ≤ 999) : d_ok (d_put σ 1 i (nI v)) cnt cp := by
  refine ⟨ok.1, ok.2.1, ok.2.2.1, ok.2.2.2.1, fun j hj => ?_⟩
  obtain ⟨a1, a2, a3, a4⟩ := ok.io hj
  refine ⟨a1, ?_, a3, a4⟩
  show ∃ z, (if j = i then nI v else σ.1 1 j) = nI z ∧ z ≤ 999
  by_cases e : j = i
  · rw [if_pos e]; exact ⟨v, rfl, h2⟩
  · rw [if_neg e]; exact a2
theorem d_ok.cap {σ : s_D} {cnt cp c : Nat} (ok : d_ok σ cnt cp) (h : c ≤ 100) : d_ok (d_cap σ (nI c)) cnt c := ⟨ok.1, ok.2.1, rfl, h, ok.2.2.2.2⟩
theorem d_ok.add {σ : s_D} {cnt cp s v : Nat} (ok : d_ok σ cnt cp) (hc : cnt < 14) (h1 : 1 ≤ s) (h2 : s ≤ 60) (h3 : v ≤ 999) : d_ok (d_add σ cnt (nI s) (nI v)) (cnt + 1) cp := by
  refine ⟨rfl, hc, ok.2.2.1, ok.2.2.2.1, fun j hj => ?_⟩
  show (∃ z, (if j = cnt then nI s else σ.1 0 j) = nI z ∧ 1 ≤ z ∧ z ≤ 60) ∧ (∃ z, (if j = cnt then nI v else σ.1 1 j) = nI z ∧ z ≤ 999) ∧ (∃ z, (if j = cnt then 0 else σ.1 2 j) = nI z ∧ z ≤ 9) ∧ ∃ z, (if j = cnt then 0 else σ.1 3 j) = nI z ∧ z ≤ 2
  by_cases e : j = cnt
  · simp only [if_pos e]
    exact ⟨⟨s, rfl, h1, h2⟩, ⟨v, rfl, h3⟩, ⟨0, rfl, by omega⟩, ⟨0, rfl, by omega⟩⟩
  · simp only [if_neg e]
    exact ok.io (by omega)
theorem d_ok.drop {σ : s_D} {cnt cp item : Nat} (ok : d_ok σ cnt cp) (hi : item < cnt) : d_ok (d_drop σ item cnt) (cnt - 1) cp := by
  refine ⟨rfl, by have := ok.2.1; omega, ok.2.2.1, ok.2.2.2.1, fun j hj => ?_⟩
  show (∃ z, d_sh (σ.1 0) item cnt j = nI z ∧ 1 ≤ z ∧ z ≤ 60) ∧ (∃ z, d_sh (σ.1 1) item cnt j = nI z ∧ z ≤ 999) ∧ (∃ z, d_sh (σ.1 2) item cnt j = nI z ∧ z ≤ 9) ∧ ∃ z, d_sh (σ.1 3) item cnt j = nI z ∧ z ≤ 2
  unfold d_sh
  by_cases e : item ≤ j ∧ j + 1 < cnt
  · simp only [if_pos e]
    exact ok.io (by omega)
  · simp only [if_neg e]
    exact ok.io (by omega)
theorem d_ok.kps {σ : s_D} {cnt cp : Nat} (ok : d_ok σ cnt cp) (set : Int32) : d_ok (d_kps σ set cnt) cnt cp := by
  refine ⟨ok.1, ok.2.1, ok.2.2.1, ok.2.2.2.1, fun j hj => ?_⟩
  obtain ⟨a1, a2, a3, a4⟩ := ok.io hj
  refine ⟨a1, a2, a3, ?_⟩
  show ∃ z, (if j < cnt ∧ ¬ s_bit set (nI j) = 0 then 1 else σ.1 3 j) = nI z ∧ z ≤ 2
  split
  · exact ⟨1, rfl, by omega⟩
  · exact a4
/-- a number within bounds -/
theorem x_rd_in {tx : Nat → Int32} {len q lo hi : Nat} (hh : hi < 100000) (h : ¬ (x_rd tx len q (nI lo) (nI hi)).1 = -1) (hl : lo < 100000) : ∃ m, (x_rd tx len q (nI lo) (nI hi)).1 = nI m ∧ lo ≤ m ∧ m ≤ hi := by
  obtain ⟨h1, h2⟩ := x_rd_ok h
  obtain ⟨m, hm, e⟩ := nI_of (x := (x_rd tx len q (nI lo) (nI hi)).1) (fun z => h1 (by
    rw [Int32.lt_iff_toInt_lt] at z ⊢
    rw [nI_ti (by omega)]
    have e0 : (0 : Int32).toInt = 0 := by decide
    omega))
  rw [e] at h1 h2
  exact ⟨m, e, Nat.le_of_not_lt fun z => h1 (nI_lt z (by omega)), Nat.le_of_not_lt fun z => h2 (nI_lt z hm)⟩
theorem x_argN {tx : Nat → Int32} {len kd : Nat} {S : x_S} (lo hi : Nat) (hk : kd ≠ 0) (e : x_ar tx len S.2.2.2.1 (x_cn S.1) kd = x_rd tx len S.2.2.2.1 (nI lo) (nI hi)) (hh : hi < 100000) (hl : lo < 100000) (h : ¬ (x_arg tx len kd S).1 = -1) : ∃ m, (x_arg tx len kd S).1 = nI m ∧ lo ≤ m ∧ m ≤ hi := by
  have e1 : (x_arg tx len kd S).1 = (x_rd tx len S.2.2.2.1 (nI lo) (nI hi)).1 := by
    unfold x_arg
    rw [if_neg hk, e]
  rw [e1] at h ⊢
  exact x_rd_in hh h hl
/-- what an argument of a kind keeps to -/
def x_in (kd cnt : Nat) (v : Int32) : Prop := match kd with
  | 1 => ∃ i, v = nI i ∧ i < cnt
  | 2 => ∃ s, v = nI s ∧ 1 ≤ s ∧ s ≤ 60
  | 3 => ∃ s, v = nI s ∧ 0 ≤ s ∧ s ≤ 999
  | 4 => ∃ s, v = nI s ∧ 0 ≤ s ∧ s ≤ 100
  | 5 => ∃ s, v = nI s ∧ 1 ≤ s ∧ s ≤ 50
  | _ => True
theorem x_arg_in {tx : Nat → Int32} {len cnt cp kd : Nat} {S : x_S} (ok : d_ok S.1 cnt cp) (hk : kd < 6) (h : ¬ (x_arg tx len kd S).1 = -1) : x_in kd cnt (x_arg tx len kd S).1 := by
  match kd, hk with
  | 0, _ => exact trivial
  | 1, _ => exact x_arg_1 ok h
  | 2, _ => exact x_argN 1 60 (by decide) rfl (by decide) (by decide) h
  | 3, _ => exact x_argN 0 999 (by decide) rfl (by decide) (by decide) h
  | 4, _ => exact x_argN 0 100 (by decide) rfl (by decide) (by decide) h
  | 5, _ => exact x_argN 1 50 (by decide) rfl (by decide) (by decide) h
theorem x_exec_ok {j cnt cp : Nat} {v1 v2 : Int32} {S : x_S} (ok : d_ok S.1 cnt cp) (hj : j < 10) (a1 : x_in (x_k1 j) cnt v1) (a2 : x_in (x_k2 j) cnt v2) : ∃ c2 p2, d_ok (x_exec j v1 v2 S).2.1 c2 p2 := by
  have ecn := ok.cn
  have ecp := ok.cpe
  have hc14 := ok.2.1
  match j, hj with
  | 0, _ =>
    obtain ⟨s, rfl, h1, h2⟩ := a1
    obtain ⟨v, rfl, -, h3⟩ := a2
    simp only [x_exec]
    rw [ecn]
    by_cases e : cnt < 14
    · rw [if_pos e]; exact ⟨_, _, ok.add e h1 h2 h3⟩
    · rw [if_neg e]; exact ⟨_, _, ok⟩
  | 1, _ => exact ⟨_, _, ok.put3 (st := 1) (by omega)⟩
  | 2, _ => exact ⟨_, _, ok.put3 (st := 2) (by omega)⟩
  | 3, _ => exact ⟨_, _, ok.put3 (st := 0) (by omega)⟩
  | 4, _ =>
    obtain ⟨i, rfl, hi⟩ := a1
    simp only [x_exec]
    rw [ecn, nI_clamp (by omega)]
    exact ⟨_, _, ok.drop hi⟩
  | 5, _ =>
    obtain ⟨c, rfl, -, hc⟩ := a1
    exact ⟨_, _, ok.cap hc⟩
  | 6, _ =>
    simp only [x_exec]
    rw [ecn, ecp]
    exact ⟨_, _, v_bn_ok ok _⟩
  | 7, _ =>
    obtain ⟨s, rfl, h1, h2⟩ := a2
    exact ⟨_, _, ok.put0 h1 h2⟩
  | 8, _ =>
    obtain ⟨v, rfl, -, h3⟩ := a2
    exact ⟨_, _, ok.put1 h3⟩
  | 9, _ =>
    simp only [x_exec]
    rw [ecn]
    by_cases e : d_room S.1 cnt < 0
    · rw [if_pos e]; exact ⟨_, _, ok⟩
    · rw [if_neg e]; exact ⟨_, _, ok.kps _⟩
theorem x_exec_ex {j : Nat} {v1 v2 : Int32} {S : x_S} : (x_exec j v1 v2 S).2.2.2.2.2.2.2 = S.2.2.2.2.2.2 := by
  unfold x_exec
  split <;> first | rfl | (split <;> rfl)
theorem x_arg_ex {tx : Nat → Int32} {len kd : Nat} {S : x_S} : (x_arg tx len kd S).2.2.2.2.2.2.2 = S.2.2.2.2.2.2 := by
  unfold x_arg
  split
  · rfl
  · dsimp only
    split <;> rfl
/-- a command keeps what the disk keeps to -/
theorem x_cmd_ok {tx : Nat → Int32} {len cnt cp : Nat} {S : x_S} (ok : d_ok S.1 cnt cp) (hex : S.2.2.2.2.2.2 ≤ 100) : (∃ c2 p2, d_ok (x_cmd tx len S).2.1 c2 p2) ∧ (x_cmd tx len S).2.2.2.2.2.2.2 ≤ 100 := by
  unfold x_cmd
  cases hfc : x_fc tx S.2.2.2.1 S.2.2.2.2.1 S.2.2.2.2.2.1 10 0 with
  | none => exact ⟨⟨_, _, ok⟩, hex⟩
  | some j =>
    have hj : j < 10 := x_fc_lt 10 0 rfl j hfc
    obtain ⟨-, hk1, -, hk2⟩ := x_k_ok j hj
    have ok1 : d_ok (x_arg tx len (x_k1 j) (x_ex1 S)).2.1 cnt cp := by rw [x_arg_d]; exact ok
    have ok2 : d_ok (x_arg tx len (x_k2 j) (x_arg tx len (x_k1 j) (x_ex1 S)).2).2.1 cnt cp := by rw [x_arg_d]; exact ok1
    have e1 : (x_arg tx len (x_k1 j) (x_ex1 S)).2.2.2.2.2.2.2 = S.2.2.2.2.2.2 + 1 := x_arg_ex
    have e2 : (x_arg tx len (x_k2 j) (x_arg tx len (x_k1 j) (x_ex1 S)).2).2.2.2.2.2.2.2 = S.2.2.2.2.2.2 + 1 := x_arg_ex.trans e1
    dsimp only
    by_cases h1 : 100 ≤ S.2.2.2.2.2.2
    · rw [if_pos h1]; exact ⟨⟨_, _, ok⟩, hex⟩
    · rw [if_neg h1]
      by_cases h2 : (x_arg tx len (x_k1 j) (x_ex1 S)).1 = -1
      · rw [if_pos h2]; exact ⟨⟨_, _, ok1⟩, by rw [e1]; omega⟩
      · rw [if_neg h2]
        by_cases h3 : (x_arg tx len (x_k2 j) (x_arg tx len (x_k1 j) (x_ex1 S)).2).1 = -1
        · rw [if_pos h3]; exact ⟨⟨_, _, ok2⟩, by rw [e2]; omega⟩
        · rw [if_neg h3]
          have ok3 : d_ok (x_next tx len (x_arg tx len (x_k2 j) (x_arg tx len (x_k1 j) (x_ex1 S)).2).2).1 cnt cp := ok2
          by_cases h4 : (x_next tx len (x_arg tx len (x_k2 j) (x_arg tx len (x_k1 j) (x_ex1 S)).2).2).2.2.2.2.1 = 59
          · rw [if_pos h4]
            exact ⟨x_exec_ok ok3 hj (x_arg_in (S := x_ex1 S) ok hk1 h2) (x_arg_in ok1 hk2 h3), by rw [x_exec_ex]; exact Nat.le_trans (Nat.le_of_eq e2) (by omega)⟩
          · rw [if_neg h4]
            exact ⟨⟨_, _, ok2⟩, Nat.le_trans (Nat.le_of_eq e2) (by omega)⟩
