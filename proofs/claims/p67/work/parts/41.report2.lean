/-! THE COMPONENT: reports -/
def pl_L (π : s_Pl) (L : List Int32) : s_Pl := (π.1, π.2.1, π.2.2.1, π.2.2.2.1, π.2.2.2.2.1, π.2.2.2.2.2.1, π.2.2.2.2.2.2.1, π.2.2.2.2.2.2.2.1, π.2.2.2.2.2.2.2.2.1, L)
def w_pr (L : List Int32) (a b : Nat) : List Int32 := L ++ (if L.length = 0 then [] else [32]) ++ p_dg a 7 ++ [58] ++ p_dg b 7
def w_s (st : Int32) (L : List Int32) : List Int32 := if st = 1 then L ++ [33] else if st = 2 then L ++ [45] else L
def w_it (σ : s_D) (pl : Int32) : Nat → List Int32
  | 0 => []
  | i + 1 => if s_bit pl (nI i) = 0 then w_s (σ.1 3 i) (w_pr (w_it σ pl i) (σ.1 0 i).toNatClampNeg (d_wt σ i).toNatClampNeg) else w_s (σ.1 3 i) (w_pr (w_it σ pl i) (σ.1 0 i).toNatClampNeg (d_wt σ i).toNatClampNeg) ++ [42]
theorem w_pr_len (L : List Int32) (a b : Nat) : (w_pr L a b).length ≤ L.length + 16 := by
  have h1 := p_dg_len a 7
  have h2 := p_dg_len b 7
  unfold w_pr
  split <;> simp <;> omega
theorem w_s_len (st : Int32) (L : List Int32) : (w_s st L).length ≤ L.length + 1 := by
  unfold w_s
  split
  · simp
  · split <;> simp
theorem w_it_len {σ : s_D} {pl : Int32} : ∀ i, (w_it σ pl i).length ≤ 24 * i
  | 0 => Nat.le_refl _
  | i + 1 => by
    have ih := w_it_len (σ := σ) (pl := pl) i
    have h1 := w_pr_len (w_it σ pl i) (σ.1 0 i).toNatClampNeg (d_wt σ i).toNatClampNeg
    have h2 := w_s_len (σ.1 3 i) (w_pr (w_it σ pl i) (σ.1 0 i).toNatClampNeg (d_wt σ i).toNatClampNeg)
    unfold w_it
    split
    · omega
    · rw [List.length_append]; simp; omega
theorem d_wt_ok {σ : s_D} {cnt cp i : Nat} (ok : d_ok σ cnt cp) (hi : i < cnt) : ∃ w, d_wt σ i = nI w ∧ w ≤ 9990 := by
  obtain ⟨-, ⟨v, e1, h1⟩, ⟨a, e2, h2⟩, -⟩ := ok.2.2.2.2 i hi
  refine ⟨v * (1 + a), ?_, Nat.mul_le_mul h1 (show 1 + a ≤ 10 by omega)⟩
  unfold d_wt
  rw [e1, e2, show (1 : Int32) = nI 1 from rfl, nI_add, nI_mul]
theorem p_dg_cut {v k : Nat} (hv : v < 10 ^ k) (hk : 1 ≤ k) : ∀ j, p_dg v (k + j) = p_dg v k
  | 0 => rfl
  | j + 1 => by
    have h1 : 10 ^ k ≤ 10 ^ (k + j) := Nat.pow_le_pow_right (by omega) (by omega)
    rw [show k + (j + 1) = k + j + 1 from rfl, p_dg_n (by omega), p_dg_cut hv hk j]
/-- a row of the table, as a report -/
def w_rw (f : Nat → Int32) : Nat → List Int32
  | 0 => []
  | c + 1 => if c = 0 ∨ f (c - 1) < f c then w_pr (w_rw f c) c (f c).toNatClampNeg else w_rw f c
theorem w_rw_len {f : Nat → Int32} (hf : ∀ c, c ≤ 100 → ∃ v, f c = nI v ∧ v < 1000000) : ∀ c, c ≤ 101 → (w_rw f c).length ≤ 11 * c
  | 0, _ => Nat.le_refl _
  | c + 1, h => by
    have ih := w_rw_len hf c (by omega)
    obtain ⟨v, e, hv⟩ := hf c (by omega)
    have h1 := p_dg_len c 3
    have h2 := p_dg_len v 6
    have e1 : p_dg c 7 = p_dg c 3 := p_dg_cut (k := 3) (by omega) (by omega) 4
    have e2 : p_dg v 7 = p_dg v 6 := p_dg_cut (k := 6) (by omega) (by omega) 1
    unfold w_rw
    split
    · unfold w_pr
      rw [e, nI_clamp (by omega), e1, e2]
      split <;> simp <;> omega
    · omega
