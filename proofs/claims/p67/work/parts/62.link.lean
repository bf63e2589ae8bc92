/-! PURE: a disk's plans are those of its numbers -/
def k_w (σ : s_D) (i : Nat) : Nat := (d_wt σ i).toNatClampNeg
def k_s (σ : s_D) (i : Nat) : Nat := (σ.1 0 i).toNatClampNeg
def k_f (σ : s_D) (i : Nat) : Bool := decide (σ.1 3 i = 0)
def k_p (σ : s_D) (i : Nat) : Bool := decide (σ.1 3 i = 1)
theorem k_it {σ : s_D} {cnt cp i : Nat} (ok : d_ok σ cnt cp) (hi : i < cnt) : σ.1 0 i = nI (k_s σ i) ∧ 1 ≤ k_s σ i ∧ k_s σ i ≤ 60 ∧ d_wt σ i = nI (k_w σ i) ∧ k_w σ i ≤ 9990 := by
  obtain ⟨⟨s, e1, s1, s2⟩, ⟨v, e2, v2⟩, ⟨a, e3, a2⟩, -⟩ := ok.2.2.2.2 i hi
  have hs : k_s σ i = s := by unfold k_s; rw [e1, nI_clamp (by omega)]
  have hva : v * (1 + a) ≤ 999 * 10 := Nat.mul_le_mul (by omega) (by omega)
  have hwt : d_wt σ i = nI (v * (1 + a)) := by
    unfold d_wt
    rw [e2, e3, show (1 : Int32) = nI 1 from rfl, nI_add, nI_mul]
  have hw : k_w σ i = v * (1 + a) := by unfold k_w; rw [hwt, nI_clamp (by omega)]
  rw [hs, hw]
  exact ⟨e1, s1, s2, hwt, hva⟩
theorem k_ir {σ : s_D} {cnt cp i : Nat} (ok : d_ok σ cnt cp) (hi : i < cnt) : (u_ir σ i).toInt = ka_ir (k_w σ) (k_s σ) i := by
  obtain ⟨h1, -, h3, h4, h5⟩ := k_it ok hi
  have h14 := ok.2.1
  have hp : 2 ^ i ≤ 2 ^ 14 := Nat.pow_le_pow_right (by omega) (by omega)
  unfold u_ir
  rw [h1, h4, b_sh i (by omega), kb_rank (by omega) (by omega) (by omega)]
  rfl
theorem k_irb {σ : s_D} {cnt cp i : Nat} (ok : d_ok σ cnt cp) (hi : i < cnt) : -1000000 ≤ ka_ir (k_w σ) (k_s σ) i ∧ ka_ir (k_w σ) (k_s σ) i ≤ 2681685279744 := by
  obtain ⟨h1, -, h3, h4, h5⟩ := k_it ok hi
  have h14 := ok.2.1
  have hp : ka_p2 i ≤ ka_p2 14 := ka_p2_le (by omega)
  have e : ka_p2 14 = 16384 := by decide
  unfold ka_ir
  omega
theorem k_tpb {σ : s_D} {cnt cp : Nat} (ok : d_ok σ cnt cp) : ∀ i, i ≤ cnt → ∀ c, -1000000 * (i : Int) ≤ ka_tp (k_f σ) (k_w σ) (k_s σ) i c ∧ ka_tp (k_f σ) (k_w σ) (k_s σ) i c ≤ 2681685279744 * (i : Int)
  | 0, _, c => by simp [ka_tp]
  | i + 1, hi, c => by
    have h1 := k_tpb ok i (by omega) c
    have h2 := k_tpb ok i (by omega) (c - k_s σ i)
    have h3 := k_irb ok (show i < cnt by omega)
    unfold ka_tp
    split
    · split <;> (push_cast; omega)
    · push_cast; omega
theorem k_add {a b : Int64} {x y : Int} (h1 : a.toInt = x) (h2 : b.toInt = y) (hl : -4611686018427387904 ≤ x + y) (hu : x + y < 4611686018427387904) : (a + b).toInt = x + y := by
  rw [Int64.toInt_add, h1, h2, kb_bm (by omega) (by omega)]
theorem k_tp {σ : s_D} {cnt cp : Nat} (ok : d_ok σ cnt cp) : ∀ i, i ≤ cnt → ∀ c, (u_tp σ i c).toInt = ka_tp (k_f σ) (k_w σ) (k_s σ) i c
  | 0, _, c => rfl
  | i + 1, hi, c => by
    have h14 := ok.2.1
    have h1 := k_tp ok i (by omega) c
    have h2 := k_tp ok i (by omega) (c - k_s σ i)
    have b1 := k_tpb ok i (by omega) c
    have b2 := k_tpb ok i (by omega) (c - k_s σ i)
    have h3 := k_ir ok (show i < cnt by omega)
    have b3 := k_irb ok (show i < cnt by omega)
    have hadd := k_add h2 h3 (by omega) (by omega)
    unfold u_tp ka_tp
    by_cases hf : σ.1 3 i = 0
    · rw [if_pos hf, if_pos (show k_f σ i = true from decide_eq_true hf)]
      show (if k_s σ i ≤ c ∧ u_tp σ i c < u_tp σ i (c - k_s σ i) + u_ir σ i then u_tp σ i (c - k_s σ i) + u_ir σ i else u_tp σ i c).toInt = _
      by_cases hc : k_s σ i ≤ c ∧ u_tp σ i c < u_tp σ i (c - k_s σ i) + u_ir σ i
      · rw [if_pos hc, if_pos ⟨hc.1, by have := Int64.lt_iff_toInt_lt.mp hc.2; rw [hadd, h1] at this; exact this⟩, hadd]
      · rw [if_neg hc, if_neg (fun z => hc ⟨z.1, Int64.lt_iff_toInt_lt.mpr (by rw [hadd, h1]; exact z.2)⟩), h1]
    · rw [if_neg hf, if_neg (show ¬ k_f σ i = true from fun z => hf (of_decide_eq_true z)), h1]
theorem k_ps {σ : s_D} {cnt cp : Nat} (ok : d_ok σ cnt cp) : ∀ i, i ≤ cnt → u_ps σ i = nI (ka_sm (k_s σ) (k_p σ) i)
  | 0, _ => rfl
  | i + 1, hi => by
    unfold u_ps ka_sm
    rw [k_ps ok i (by omega)]
    by_cases hp : σ.1 3 i = 1
    · rw [if_pos hp, if_pos (show k_p σ i = true from decide_eq_true hp), (k_it ok (show i < cnt by omega)).1, nI_add]
    · rw [if_neg hp, if_neg (show ¬ k_p σ i = true from fun z => hp (of_decide_eq_true z))]
theorem k_psb {σ : s_D} {cnt cp : Nat} (ok : d_ok σ cnt cp) {t : Nat → Bool} : ∀ i, i ≤ cnt → ka_sm (k_s σ) t i ≤ 60 * i ∧ ka_sm (k_w σ) t i ≤ 9990 * i
  | 0, _ => ⟨Nat.le_refl _, Nat.le_refl _⟩
  | i + 1, hi => by
    have ih := k_psb ok (t := t) i (by omega)
    have := k_it ok (show i < cnt by omega)
    unfold ka_sm
    split <;> omega
theorem k_rkb {σ : s_D} {cnt cp : Nat} (ok : d_ok σ cnt cp) {t : Nat → Bool} {i : Nat} (hi : i ≤ cnt) : -30000000 ≤ ka_rk (k_w σ) (k_s σ) t i ∧ ka_rk (k_w σ) (k_s σ) t i ≤ 37543593916416 := by
  have h1 := k_psb ok (t := t) i hi
  have h14 := ok.2.1
  have h2 := ka_M14 (t := t) (n := i) (by omega)
  unfold ka_rk
  omega
theorem k_pr {σ : s_D} {cnt cp : Nat} (ok : d_ok σ cnt cp) : ∀ i, i ≤ cnt → (u_pr σ i).toInt = ka_rk (k_w σ) (k_s σ) (k_p σ) i
  | 0, _ => by
    show (0 : Int64).toInt = _
    rw [Int64.toInt_zero]
    simp [ka_rk, ka_sm]
  | i + 1, hi => by
    have ih := k_pr ok i (by omega)
    have h3 := k_ir ok (show i < cnt by omega)
    have b1 := k_rkb ok (t := k_p σ) (show i ≤ cnt by omega)
    have b3 := k_irb ok (show i < cnt by omega)
    unfold u_pr
    by_cases hp : σ.1 3 i = 1
    · rw [if_pos hp, k_add ih h3 (by omega) (by omega), ka_rk_t (show k_p σ i = true from decide_eq_true hp)]
    · rw [if_neg hp, ih, ka_rk_f (show ¬ k_p σ i = true from fun z => hp (of_decide_eq_true z))]
/-- the best set of free items for a room -/
theorem k_ex (σ : s_D) (cnt r : Nat) : ∃ t, ka_sub (k_f σ) t cnt ∧ ka_sm (k_s σ) t cnt ≤ r ∧ ka_tp (k_f σ) (k_w σ) (k_s σ) cnt r = ka_rk (k_w σ) (k_s σ) t cnt := (ka_max cnt r).1
noncomputable def k_t (σ : s_D) (cnt r : Nat) : Nat → Bool := Classical.choose (k_ex σ cnt r)
theorem k_t_ok (σ : s_D) (cnt r : Nat) : ka_sub (k_f σ) (k_t σ cnt r) cnt ∧ ka_sm (k_s σ) (k_t σ cnt r) cnt ≤ r ∧ ka_tp (k_f σ) (k_w σ) (k_s σ) cnt r = ka_rk (k_w σ) (k_s σ) (k_t σ cnt r) cnt := Classical.choose_spec (k_ex σ cnt r)
def k_P (σ : s_D) (cnt : Nat) : Nat := ka_sm (k_s σ) (k_p σ) cnt
/-- the best plan as a set -/
noncomputable def k_T (σ : s_D) (cnt r : Nat) : Nat → Bool := ka_or (k_p σ) (k_t σ cnt r)
theorem k_ap {σ : s_D} {cnt r : Nat} : ∀ j, j < cnt → k_t σ cnt r j = true → k_p σ j = false := fun j hj ht => by
  have := of_decide_eq_true ((k_t_ok σ cnt r).1 j hj ht)
  unfold k_p
  rw [this]
  decide
theorem k_best {σ : s_D} {cnt cp cap : Nat} (ok : d_ok σ cnt cp) (hc : cap ≤ 100) (hr : k_P σ cnt ≤ cap) : (u_best σ cnt cap).toInt = ka_rk (k_w σ) (k_s σ) (k_T σ cnt (cap - k_P σ cnt)) cnt := by
  have h14 := ok.2.1
  have hps : u_ps σ cnt = nI (k_P σ cnt) := k_ps ok cnt (Nat.le_refl _)
  have hne : ¬ nI cap - u_ps σ cnt < 0 := by
    rw [hps, nI_sble hr]
    exact nI_pos (by omega)
  have b1 := k_rkb ok (t := k_p σ) (Nat.le_refl cnt)
  have b2 := k_rkb ok (t := k_t σ cnt (cap - k_P σ cnt)) (Nat.le_refl cnt)
  unfold u_best
  rw [if_neg hne, hps, nI_sble hr, nI_clamp (by omega)]
  have e := k_add (k_pr ok cnt (Nat.le_refl _)) ((k_tp ok cnt (Nat.le_refl _) (cap - k_P σ cnt)).trans (k_t_ok σ cnt _).2.2) (by omega) (by omega)
  unfold k_T
  rw [ka_rk_or k_ap, ← e]
theorem k_none {σ : s_D} {cnt cp cap : Nat} (ok : d_ok σ cnt cp) (hc : cap ≤ 100) (hr : cap < k_P σ cnt) : u_best σ cnt cap = r_NP := by
  have h14 := ok.2.1
  have hps : u_ps σ cnt = nI (k_P σ cnt) := k_ps ok cnt (Nat.le_refl _)
  have hb : k_P σ cnt ≤ 60 * cnt := (k_psb ok (t := k_p σ) cnt (Nat.le_refl _)).1
  unfold u_best
  rw [if_pos]
  rw [hps]
  exact nI_sblt hr (by omega)
/-- what the best rank tells -/
theorem k_tell {σ : s_D} {cnt cp cap : Nat} (ok : d_ok σ cnt cp) (hc : cap ≤ 100) (hr : k_P σ cnt ≤ cap) :
    r_wt (u_best σ cnt cap) = nI (ka_sm (k_w σ) (k_T σ cnt (cap - k_P σ cnt)) cnt) ∧ r_sz (u_best σ cnt cap) = nI (ka_sm (k_s σ) (k_T σ cnt (cap - k_P σ cnt)) cnt) ∧ r_st (u_best σ cnt cap) = nI (ka_sm ka_p2 (k_T σ cnt (cap - k_P σ cnt)) cnt) ∧ r_se (u_best σ cnt cap) = nI (ka_sm ka_p2 (k_T σ cnt (cap - k_P σ cnt)) cnt) ∧ ¬ u_best σ cnt cap = r_NP := by
  have h14 := ok.2.1
  have hb := k_psb ok (t := k_T σ cnt (cap - k_P σ cnt)) cnt (Nat.le_refl _)
  exact kb_wt (k_best ok hc hr) (by omega) (by omega) (ka_M14 h14)
/-- sets as numbers: bits and sums -/
theorem k_bit {t : Nat → Bool} {cnt i : Nat} (h14 : cnt ≤ 14) (hi : i < cnt) : (s_bit (nI (ka_sm ka_p2 t cnt)) (nI i) = 0) ↔ t i = false := by
  have := ka_M14 (t := t) h14
  rw [b_bit (by omega) (by omega), ka_M_bit cnt hi]
  cases t i <;> simp
theorem k_totg {g : Nat → Int32} {G : Nat → Nat} {t : Nat → Bool} {cnt : Nat} (h14 : cnt ≤ 14) (hg : ∀ i, i < cnt → g i = nI (G i)) : ∀ i, i ≤ cnt → d_tot g (nI (ka_sm ka_p2 t cnt)) i = nI (ka_sm G t i)
  | 0, _ => rfl
  | i + 1, hi => by
    have hb := k_bit (t := t) h14 (show i < cnt by omega)
    unfold d_tot
    rw [k_totg h14 hg i (by omega), ka_sm_s]
    cases e : t i with
    | false => rw [if_pos (hb.mpr e), if_neg (by decide)]
    | true => rw [if_neg (fun z => by rw [hb.mp z] at e; cases e), if_pos rfl, hg i (by omega), nI_add]
theorem k_tot0 {σ : s_D} {cnt cp : Nat} {t : Nat → Bool} (ok : d_ok σ cnt cp) : d_tot (σ.1 0) (nI (ka_sm ka_p2 t cnt)) cnt = nI (ka_sm (k_s σ) t cnt) := k_totg ok.2.1 (fun i hi => (k_it ok hi).1) cnt (Nat.le_refl _)
theorem k_totw {σ : s_D} {cnt cp : Nat} {t : Nat → Bool} (ok : d_ok σ cnt cp) : d_tot (d_wt σ) (nI (ka_sm ka_p2 t cnt)) cnt = nI (ka_sm (k_w σ) t cnt) := k_totg ok.2.1 (fun i hi => (k_it ok hi).2.2.2.1) cnt (Nat.le_refl _)
theorem k_set {σ : s_D} {st : Int32} : ∀ i, u_st σ st i = ka_sm ka_p2 (fun j => decide (σ.1 3 j = st)) i
  | 0 => rfl
  | i + 1 => by
    unfold u_st ka_sm
    rw [k_set i]
    by_cases h : σ.1 3 i = st <;> simp [h, ka_p2]
theorem k_dset {σ : s_D} {st : Int32} {cnt : Nat} (h : cnt ≤ 30) : d_set σ st cnt = nI (ka_sm ka_p2 (fun j => decide (σ.1 3 j = st)) cnt) := by rw [d_set_st cnt h, k_set]
/-- the union of sets -/
theorem k_or {p t : Nat → Bool} {cnt : Nat} : ka_sm ka_p2 p cnt ||| ka_sm ka_p2 t cnt = ka_sm ka_p2 (ka_or p t) cnt := by
  apply Nat.eq_of_testBit_eq
  intro j
  rw [Nat.testBit_or]
  by_cases hj : j < cnt
  · rw [ka_M_bit cnt hj, ka_M_bit cnt hj, ka_M_bit cnt hj]
    rfl
  · have e : ∀ t : Nat → Bool, (ka_sm ka_p2 t cnt).testBit j = false := fun t => Nat.testBit_lt_two_pow (Nat.lt_of_lt_of_le (ka_M_lt cnt) (Nat.pow_le_pow_right (by omega) (by omega)))
    rw [e, e, e]
    rfl
/-! the table by exact sizes -/
def k_mt (σ : s_D) (i x : Nat) : Int × Nat × Nat := ka_mt (k_f σ) (k_w σ) (k_s σ) i x
def k_be (σ : s_D) (i r : Nat) : Nat := ka_be (fun x => (k_mt σ i x).1) r
theorem k_mtb {σ : s_D} {cnt cp : Nat} (ok : d_ok σ cnt cp) : ∀ i, i ≤ cnt → ∀ x, -1 ≤ (k_mt σ i x).1 ∧ (k_mt σ i x).1 ≤ 9990 * (i : Int)
  | 0, _, x => by
    unfold k_mt ka_mt
    split <;> (dsimp only; omega)
  | i + 1, hi, x => by
    have h1 := k_mtb ok i (by omega) x
    have h2 := k_mtb ok i (by omega) (x - k_s σ i)
    have h3 := k_it ok (show i < cnt by omega)
    unfold k_mt at *
    rw [ka_mt_s]
    split
    · split
      · dsimp only; push_cast; omega
      · split
        · dsimp only; push_cast; omega
        · push_cast; omega
    · push_cast; omega
theorem k_bestx {σ : s_D} {cnt cp i r : Nat} (ok : d_ok σ cnt cp) (hi : i ≤ cnt) (hr : r ≤ 100) : (k_mt σ i (k_be σ i r)).1 = (ka_sm (k_w σ) (k_t σ i r) i : Int) ∧ k_be σ i r = ka_sm (k_s σ) (k_t σ i r) i ∧ (k_mt σ i (k_be σ i r)).2.1 = ka_sm ka_p2 (k_t σ i r) i := by
  have h14 := ok.2.1
  obtain ⟨h1, h2⟩ := ka_best (fr := k_f σ) (w := k_w σ) (s := k_s σ) (n := i) (r := r) (by omega) (by omega) (fun j hj => (k_it ok (show j < cnt by omega)).2.1)
  obtain ⟨t1, t2, t3⟩ := k_t_ok σ i r
  have hb := (ka_be_ok (f := fun x => (ka_mt (k_f σ) (k_w σ) (k_s σ) i x).1) r).1
  have i1 := (ka_mt_inv (fr := k_f σ) (w := k_w σ) (s := k_s σ) i (k_be σ i r)).2
  have hp : ka_p2 i ≤ 16384 := by
    have := ka_p2_le (show i ≤ 14 by omega)
    have e : ka_p2 14 = 16384 := by decide
    omega
  have hM := ka_M14 (t := k_t σ i r) (n := i) (by omega)
  rw [t3] at h1
  unfold ka_R ka_rk at h1
  unfold k_mt k_be k_mt at *
  omega
/-- the plan of the exact table -/
theorem k_plan {σ : s_D} {cnt cp cap : Nat} (ok : d_ok σ cnt cp) (hc : cap ≤ 100) (hr : k_P σ cnt ≤ cap) : r_st (u_best σ cnt cap) = nI (k_mt σ cnt (k_be σ cnt (cap - k_P σ cnt))).2.1 ||| d_set σ 1 cnt := by
  have h14 := ok.2.1
  rw [(k_tell ok hc hr).2.2.1, (k_bestx ok (Nat.le_refl _) (by omega)).2.2, k_dset (by omega), nI_or, Nat.or_comm]
  unfold k_T
  rw [← k_or]
  rfl
theorem k_cell {σ : s_D} {cnt cp i r : Nat} (ok : d_ok σ cnt cp) (hi : i ≤ cnt) (hr : r ≤ 100) : r_wt (u_tp σ i r) = Int32.ofInt (k_mt σ i (k_be σ i r)).1 := by
  have h14 := ok.2.1
  have hb := k_psb ok (t := k_t σ i r) i hi
  rw [(k_bestx ok hi hr).1, (kb_wt ((k_tp ok i hi r).trans (k_t_ok σ i r).2.2) (by omega) (by omega) (ka_M14 (by omega))).1]
  rfl
