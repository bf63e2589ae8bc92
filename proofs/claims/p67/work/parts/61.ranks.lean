/-! PURE: ranks as whole numbers -/
theorem kb_bm {z : Int} (h1 : -9223372036854775808 ≤ z) (h2 : z < 9223372036854775808) : z.bmod (2 ^ 64) = z := Int.bmod_eq_of_le (by omega) (by omega)
theorem kb_sh28 : ((28 : Int32).toInt64 &&& 63) = 28 := by decide
theorem kb_sh14 : ((14 : Int32).toInt64 &&& 63) = 14 := by decide
theorem kb_shl {x : Int64} {k : Nat} {y : Int64} (hy : (y.toBitVec.smod 64#64).toNat = k) : (x <<< y).toInt = (x.toInt * 2 ^ k).bmod (2 ^ 64) := by
  rw [← Int64.toInt_toBitVec, Int64.toBitVec_shiftLeft]
  show (x.toBitVec <<< (y.toBitVec.smod 64#64)).toInt = _
  rw [BitVec.shiftLeft_eq', hy, BitVec.toInt_shiftLeft, Nat.shiftLeft_eq, ← Int64.toInt_toBitVec, BitVec.toInt_eq_toNat_bmod]
  rw [Int.bmod_mul_bmod]
  simp
theorem kb_shr {x : Int64} {k : Nat} {y : Int64} (hy : (y.toBitVec.smod 64#64).toNat = k) : (x >>> y).toInt = x.toInt / 2 ^ k := by
  rw [← Int64.toInt_toBitVec, Int64.toBitVec_shiftRight]
  show (x.toBitVec.sshiftRight (y.toBitVec.smod 64#64).toNat).toInt = _
  rw [hy, BitVec.toInt_sshiftRight, Int.shiftRight_eq_div_pow]
  rfl
theorem kb_s28 : ((28 : Int64).toBitVec.smod 64#64).toNat = 28 := by decide
theorem kb_s14 : ((14 : Int64).toBitVec.smod 64#64).toNat = 14 := by decide
theorem kb_nI {a : Nat} (h : a < 2147483648) : (nI a).toInt = a := Int32.toInt_ofNat_of_lt (by omega)
theorem kb_l {a : Nat} (h : a < 2147483648) : (nI a).toInt64.toInt = a := by rw [Int32.toInt_toInt64, kb_nI h]
theorem kb_rank {w s b : Nat} (hw : w ≤ 1000000) (hs : s ≤ 100000) (hb : b ≤ 100000) : (r_rank (nI w) (nI s) (nI b)).toInt = (w : Int) * 268435456 - (s : Int) * 16384 - (b : Int) := by
  unfold r_rank
  rw [kb_sh28, kb_sh14, Int64.toInt_sub, Int64.toInt_sub, kb_shl kb_s28, kb_shl kb_s14, kb_l (by omega), kb_l (by omega), kb_l (by omega)]
  rw [kb_bm (z := (w : Int) * 2 ^ 28) (by omega) (by omega), kb_bm (z := (s : Int) * 2 ^ 14) (by omega) (by omega), kb_bm (z := (w : Int) * 2 ^ 28 - (s : Int) * 2 ^ 14) (by omega) (by omega), kb_bm (by omega) (by omega)]
  omega
theorem kb_NP : r_NP.toInt = -4611686018427387904 := by decide
theorem kb_t32 {x : Int64} {k : Nat} (hk : k < 2147483648) (hx : x.toInt = k) : x.toInt32 = nI k := by
  apply Int32.toInt_inj.mp
  rw [Int64.toInt_toInt32, hx, kb_nI hk]
  exact Int.bmod_eq_of_le (by omega) (by omega)
theorem kb_bmod14 (a : Nat) : ((a : Int).bmod (2 ^ 64)) % 16384 = (a : Int) % 16384 := by
  have h4 := Int.bmod_add_bdiv (a : Int) (2 ^ 64)
  omega
theorem kb_16383 : (16383 : Int64).toBitVec = BitVec.ofNat 64 16383 := rfl
theorem kb_and {x : Int64} {b : Nat} (hx : x.toInt % 16384 = b) : (x &&& 16383).toInt = b := by
  rw [← Int64.toInt_toBitVec, Int64.toBitVec_and, kb_16383, BitVec.toInt_eq_toNat_of_msb, BitVec.toNat_and, BitVec.toNat_ofNat]
  · rw [show 16383 % 2 ^ 64 = 2 ^ 14 - 1 from rfl, Nat.and_two_pow_sub_one_eq_mod]
    have h2 : x.toInt = (x.toBitVec.toNat : Int).bmod (2 ^ 64) := by rw [← Int64.toInt_toBitVec, BitVec.toInt_eq_toNat_bmod]
    rw [h2, kb_bmod14] at hx
    omega
  · rw [BitVec.msb_and, show (BitVec.ofNat 64 16383).msb = false from rfl, Bool.and_false]
theorem kb_wt {r : Int64} {W S M : Nat} (h : r.toInt = (W : Int) * 268435456 - (S : Int) * 16384 - (M : Int)) (hW : W ≤ 1000000) (hS : S < 16384) (hM : M < 16384) : r_wt r = nI W ∧ r_sz r = nI S ∧ r_st r = nI M ∧ r_se r = nI M ∧ ¬ r = r_NP := by
  have hne : ¬ r = r_NP := fun z => by
    rw [z, kb_NP] at h
    omega
  have hneg : (-r).toInt = -((W : Int) * 268435456 - (S : Int) * 16384 - (M : Int)) := by
    rw [Int64.toInt_neg, h, kb_bm (by omega) (by omega)]
  refine ⟨?_, ?_, ?_, ?_, hne⟩
  · unfold r_wt
    rw [if_neg hne, kb_sh28]
    refine kb_t32 (k := W) (by omega) ?_
    rw [kb_shr kb_s28, Int64.toInt_sub, Int64.toInt_add, h]
    have e1 : (268435456 : Int64).toInt = 268435456 := by decide
    have e2 : (1 : Int64).toInt = 1 := by decide
    rw [e1, e2, kb_bm (z := _ + (268435456 : Int)) (by omega) (by omega), kb_bm (by omega) (by omega)]
    omega
  · unfold r_sz
    rw [if_neg hne, kb_sh14]
    refine kb_t32 (k := S) (by omega) (kb_and ?_)
    rw [kb_shr kb_s14, hneg]
    omega
  · unfold r_st
    rw [if_neg hne]
    refine kb_t32 (k := M) (by omega) (kb_and ?_)
    rw [hneg]
    omega
  · unfold r_se
    rw [if_neg hne]
    refine kb_t32 (k := M) (by omega) (kb_and ?_)
    rw [hneg]
    omega
