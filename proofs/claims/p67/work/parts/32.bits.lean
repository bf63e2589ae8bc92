/-! BITS -/
def b_pc : Nat → Nat → Nat
  | 0, _ => 0
  | k + 1, m => m % 2 + b_pc k (m / 2)
def b_ck (k : Nat) : Bool := (List.range 256).all fun m => s_bc (nI (256 * k + m)) == nI (b_pc 14 (256 * k + m))
theorem b_ck_all : ((List.range 64).all b_ck) = true := by decide +kernel
theorem b_bc {m : Nat} (h : m < 16384) : s_bc (nI m) = nI (b_pc 14 m) := by
  have h1 := List.all_eq_true.mp b_ck_all (m / 256) (List.mem_range.mpr (by omega))
  unfold b_ck at h1
  have h2 := List.all_eq_true.mp h1 (m % 256) (List.mem_range.mpr (by omega))
  rw [Nat.div_add_mod] at h2
  exact eq_of_beq h2
theorem b_pc0 : ∀ k, b_pc k 0 = 0
  | 0 => rfl
  | k + 1 => by simp [b_pc, b_pc0 k]
theorem b_pc_add : ∀ (k i m : Nat), m < 2 ^ i → i < k → b_pc k (m + 2 ^ i) = b_pc k m + 1
  | 0, i, m, _, h => by omega
  | k + 1, 0, m, hm, _ => by
    obtain rfl : m = 0 := by simpa using hm
    simp [b_pc, b_pc0]
  | k + 1, i + 1, m, hm, hi => by
    have e1 : 2 ^ (i + 1) = 2 * 2 ^ i := by rw [Nat.pow_succ, Nat.mul_comm]
    rw [e1] at hm ⊢
    have ih := b_pc_add k i (m / 2) (by omega) (by omega)
    simp only [b_pc]
    rw [show (m + 2 * 2 ^ i) % 2 = m % 2 by omega, show (m + 2 * 2 ^ i) / 2 = m / 2 + 2 ^ i by omega, ih]
    omega
theorem nI_or (a b : Nat) : nI a ||| nI b = nI (a ||| b) := by
  apply Int32.toBitVec_inj.mp
  rw [Int32.toBitVec_or]
  exact BitVec.ofNat_or.symm
theorem b_sh : ∀ i, i < 31 → (1 : Int32) <<< (nI i &&& 31) = nI (2 ^ i) := by decide +kernel
theorem b_or {m i : Nat} (hm : m < 2 ^ i) (hi : i < 31) : nI m ||| ((1 : Int32) <<< (nI i &&& 31)) = nI (m + 2 ^ i) := by
  rw [b_sh i hi, nI_or]
  congr 1
  have := Nat.two_pow_add_eq_or_of_lt hm 1
  rw [Nat.mul_one] at this
  rw [Nat.or_comm, ← this, Nat.add_comm]
/-- the set of the first i items with a state, as a number -/
def u_st (σ : s_D) (st : Int32) : Nat → Nat
  | 0 => 0
  | i + 1 => if σ.1 3 i = st then u_st σ st i + 2 ^ i else u_st σ st i
def u_cn (σ : s_D) (st : Int32) : Nat → Nat
  | 0 => 0
  | i + 1 => if σ.1 3 i = st then u_cn σ st i + 1 else u_cn σ st i
theorem u_st_lt {σ : s_D} {st : Int32} : ∀ i, u_st σ st i < 2 ^ i
  | 0 => by simp [u_st]
  | i + 1 => by
    have := u_st_lt (σ := σ) (st := st) i
    have e1 : 2 ^ (i + 1) = 2 * 2 ^ i := by rw [Nat.pow_succ, Nat.mul_comm]
    unfold u_st
    split <;> omega
theorem d_set_st {σ : s_D} {st : Int32} : ∀ i, i ≤ 30 → d_set σ st i = nI (u_st σ st i)
  | 0, _ => rfl
  | i + 1, h => by
    have ih := d_set_st (σ := σ) (st := st) i (by omega)
    unfold d_set u_st
    split
    · rw [ih, b_or (u_st_lt i) (by omega)]
    · exact ih
theorem u_st_pc {σ : s_D} {st : Int32} : ∀ i, i ≤ 14 → b_pc 14 (u_st σ st i) = u_cn σ st i
  | 0, _ => b_pc0 14
  | i + 1, h => by
    have ih := u_st_pc (σ := σ) (st := st) i (by omega)
    unfold u_st u_cn
    split
    · rw [b_pc_add 14 i _ (u_st_lt i) (by omega), ih]
    · exact ih
theorem u_cn_nf {σ : s_D} : ∀ i, u_cn σ 0 i = u_nf σ i
  | 0 => rfl
  | i + 1 => by simp only [u_cn, u_nf, u_cn_nf i]
theorem s_bc_set {σ : s_D} {st : Int32} {cnt : Nat} (h : cnt ≤ 14) : s_bc (d_set σ st cnt) = nI (u_cn σ st cnt) := by
  have h1 := u_st_lt (σ := σ) (st := st) cnt
  have h2 : 2 ^ cnt ≤ 2 ^ 14 := Nat.pow_le_pow_right (by omega) h
  rw [d_set_st cnt (by omega), b_bc (by omega), u_st_pc cnt h]
theorem s_bc_free {σ : s_D} {cnt : Nat} (h : cnt ≤ 14) : s_bc (d_set σ 0 cnt) = nI (u_nf σ cnt) := by rw [s_bc_set h, u_cn_nf]
theorem b_sm : ∀ i, i < 32 → ((nI i &&& 31).toBitVec.smod 32).toNat = i := by decide +kernel
theorem b_shr {m i : Nat} (hm : m < 2147483648) (hi : i < 32) : nI m >>> (nI i &&& 31) = nI (m >>> i) := by
  apply Int32.toBitVec_inj.mp
  rw [Int32.toBitVec_shiftRight]
  have e0 : (nI m).toBitVec = BitVec.ofNat 32 m := rfl
  have e1 : (nI (m >>> i)).toBitVec = BitVec.ofNat 32 (m >>> i) := rfl
  have hmsb : (BitVec.ofNat 32 m).msb = false := by
    rw [BitVec.msb_eq_decide, BitVec.toNat_ofNat, Nat.mod_eq_of_lt (by omega)]
    exact decide_eq_false (by omega)
  show (nI m).toBitVec.sshiftRight ((nI i &&& 31).toBitVec.smod 32).toNat = _
  rw [b_sm i hi, e0, e1, BitVec.sshiftRight_eq_of_msb_false hmsb]
  apply BitVec.eq_of_toNat_eq
  rw [BitVec.toNat_ushiftRight, BitVec.toNat_ofNat, BitVec.toNat_ofNat, Nat.mod_eq_of_lt (by omega), Nat.mod_eq_of_lt]
  have := Nat.shiftRight_le m i
  omega
theorem nI_and (a b : Nat) : nI a &&& nI b = nI (a &&& b) := by
  apply Int32.toBitVec_inj.mp
  rw [Int32.toBitVec_and]
  exact BitVec.ofNat_and.symm
theorem b_bit {m i : Nat} (hm : m < 2147483648) (hi : i < 32) : s_bit (nI m) (nI i) = if m.testBit i then 1 else 0 := by
  unfold s_bit
  rw [b_shr hm hi, show (1 : Int32) = nI 1 from rfl, nI_and, Nat.testBit, Nat.and_comm]
  rcases Nat.mod_two_eq_zero_or_one (m >>> i) with h | h <;> simp [Nat.one_and_eq_mod_two, h] <;> rfl
theorem u_st_bit {σ : s_D} {st : Int32} {i : Nat} : ∀ c, (u_st σ st c).testBit i = (decide (i < c) && decide (σ.1 3 i = st))
  | 0 => by simp [u_st]
  | c + 1 => by
    have ih := u_st_bit (σ := σ) (st := st) (i := i) c
    have hlt := u_st_lt (σ := σ) (st := st) c
    unfold u_st
    by_cases hs : σ.1 3 c = st
    · rw [if_pos hs, Nat.add_comm]
      rcases Nat.lt_trichotomy i c with h | h | h
      · rw [Nat.testBit_two_pow_add_gt h, ih]
        simp [h, Nat.lt_succ_of_lt h]
      · subst h
        rw [Nat.testBit_two_pow_add_eq, Nat.testBit_lt_two_pow hlt]
        simp [hs]
      · have h2 : 2 ^ (c + 1) ≤ 2 ^ i := Nat.pow_le_pow_right (by omega) h
        have e1 : 2 ^ (c + 1) = 2 * 2 ^ c := by rw [Nat.pow_succ, Nat.mul_comm]
        rw [Nat.testBit_lt_two_pow (by omega)]
        simp [show ¬ i < c + 1 by omega]
    · rw [if_neg hs, ih]
      by_cases h : i = c
      · subst h
        simp [hs]
      · simp only [show (i < c + 1) = (i < c) from propext ⟨fun z => by omega, fun z => by omega⟩]
theorem d_set_bit {σ : s_D} {st : Int32} {c i : Nat} (hc : c ≤ 30) (hi : i < c) : (s_bit (d_set σ st c) (nI i) = 0) ↔ ¬ σ.1 3 i = st := by
  have hlt := u_st_lt (σ := σ) (st := st) c
  have h2 : 2 ^ c ≤ 2 ^ 30 := Nat.pow_le_pow_right (by omega) hc
  rw [d_set_st c hc, b_bit (by omega) (by omega), u_st_bit]
  by_cases h : σ.1 3 i = st <;> simp [hi, h]
/-- the size of the pinned ones -/
theorem d_tot_ps {σ : s_D} {c : Nat} (hc : c ≤ 30) : ∀ k, k ≤ c → d_tot (σ.1 0) (d_set σ 1 c) k = u_ps σ k
  | 0, _ => rfl
  | k + 1, h => by
    have ih := d_tot_ps (σ := σ) hc k (by omega)
    have hb := d_set_bit (σ := σ) (st := 1) hc (i := k) (by omega)
    unfold d_tot u_ps
    by_cases e : σ.1 3 k = 1
    · rw [if_pos e, if_neg (fun z => hb.mp z e), ih]
    · rw [if_neg e, if_pos (hb.mpr e), ih]
theorem d_room_eq {σ : s_D} {cnt cp : Nat} (ok : d_ok σ cnt cp) : d_room σ cnt = nI cp - u_ps σ cnt := by
  have := ok.2.1
  unfold d_room
  rw [d_tot_ps (c := cnt) (by omega) cnt (Nat.le_refl _), ok.2.2.1]
