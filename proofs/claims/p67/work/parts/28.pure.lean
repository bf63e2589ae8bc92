/-! PURE: the tables' numbers without the tables -/
theorem nI_ti {a : Nat} (h : a < 2147483648) : (nI a).toInt = a := Int32.toInt_ofNat_of_lt (by omega)
theorem nI_sble {a b : Nat} (h : b ≤ a) : nI a - nI b = nI (a - b) := by
  have e : nI (a - b) + nI b = nI a := by rw [nI_add]; congr 1; omega
  rw [← e, Int32.add_sub_cancel]
theorem nI_sblt {a b : Nat} (h : a < b) (hb : b < 2147483648) : nI a - nI b < 0 := by
  rw [Int32.lt_iff_toInt_lt, Int32.toInt_sub, nI_ti (by omega), nI_ti hb]
  rw [Int.bmod_eq_of_le (by omega) (by omega)]
  show (a : Int) - b < 0
  omega
theorem nI_inj {a b : Nat} (ha : a < 2147483648) (hb : b < 2147483648) (h : nI a = nI b) : a = b := by
  have := congrArg Int32.toInt h
  rw [nI_ti ha, nI_ti hb] at this
  omega
def u_ir (σ : s_D) (i : Nat) : Int64 := r_rank (d_wt σ i) (σ.1 0 i) ((1 : Int32) <<< (nI i &&& 31))
def u_ps (σ : s_D) : Nat → Int32
  | 0 => 0
  | i + 1 => if σ.1 3 i = 1 then u_ps σ i + σ.1 0 i else u_ps σ i
def u_pr (σ : s_D) : Nat → Int64
  | 0 => 0
  | i + 1 => if σ.1 3 i = 1 then u_pr σ i + u_ir σ i else u_pr σ i
def u_nf (σ : s_D) : Nat → Nat
  | 0 => 0
  | i + 1 => if σ.1 3 i = 0 then u_nf σ i + 1 else u_nf σ i
/-- the best rank of the free ones among the first i for a column -/
def u_tp (σ : s_D) : Nat → Nat → Int64
  | 0, _ => 0
  | i + 1, c => if σ.1 3 i = 0 then (if (σ.1 0 i).toNatClampNeg ≤ c ∧ u_tp σ i c < u_tp σ i (c - (σ.1 0 i).toNatClampNeg) + u_ir σ i then u_tp σ i (c - (σ.1 0 i).toNatClampNeg) + u_ir σ i else u_tp σ i c) else u_tp σ i c
theorem u_nf_le {σ : s_D} : ∀ i, u_nf σ i ≤ i
  | 0 => Nat.le_refl _
  | i + 1 => by
    have := u_nf_le (σ := σ) i
    unfold u_nf
    split <;> omega
theorem u_nf_mono {σ : s_D} {j : Nat} : ∀ i, j ≤ i → u_nf σ j ≤ u_nf σ i
  | 0, h => by obtain rfl : j = 0 := by omega
               exact Nat.le_refl _
  | i + 1, h => by
    by_cases e : j = i + 1
    · rw [e]; exact Nat.le_refl _
    · have := u_nf_mono (σ := σ) (j := j) i (by omega)
      show u_nf σ j ≤ (if σ.1 3 i = 0 then u_nf σ i + 1 else u_nf σ i)
      split <;> omega
theorem u_build {σ : s_D} {lc : Nat} {τ : s_Tb} (h0 : ∀ c, c ≤ lc → τ.1 0 c = 0) : ∀ i, (t_build σ lc τ i).2.2.2.1 = u_nf σ i ∧ (t_build σ lc τ i).2.2.2.2.1 = u_ps σ i ∧ (t_build σ lc τ i).2.2.2.2.2 = u_pr σ i ∧ (∀ j, j ≤ i → ∀ c, c ≤ lc → (t_build σ lc τ i).1 (u_nf σ j) c = u_tp σ j c) ∧ (∀ j, j < i → σ.1 3 j = 0 → (t_build σ lc τ i).2.1 (u_nf σ j) = nI j)
  | 0 => ⟨rfl, rfl, rfl, fun j hj c hc => by obtain rfl : j = 0 := by omega
                                             exact h0 c hc, fun j hj => by omega⟩
  | i + 1 => by
    obtain ⟨h1, h2, h3, h4, h5⟩ := u_build h0 i
    show (t_step σ lc i (t_build σ lc τ i)).2.2.2.1 = _ ∧ (t_step σ lc i (t_build σ lc τ i)).2.2.2.2.1 = _ ∧ (t_step σ lc i (t_build σ lc τ i)).2.2.2.2.2 = _ ∧ (∀ j, j ≤ i + 1 → ∀ c, c ≤ lc → (t_step σ lc i (t_build σ lc τ i)).1 (u_nf σ j) c = u_tp σ j c) ∧ (∀ j, j < i + 1 → σ.1 3 j = 0 → (t_step σ lc i (t_build σ lc τ i)).2.1 (u_nf σ j) = nI j)
    generalize t_build σ lc τ i = β at h1 h2 h3 h4 h5
    unfold t_step
    by_cases e1 : σ.1 3 i = 1
    · have e0 : ¬ σ.1 3 i = 0 := by rw [e1]; decide
      simp only [if_pos e1]
      refine ⟨by rw [h1]; simp only [u_nf, if_neg e0], by rw [h2]; simp only [u_ps, if_pos e1], by rw [h3]; simp only [u_pr, if_pos e1, u_ir], fun j hj c hc => ?_, fun j hj hs => ?_⟩
      · by_cases ej : j = i + 1
        · subst ej
          simp only [u_nf, u_tp, if_neg e0]
          exact h4 i (Nat.le_refl _) c hc
        · exact h4 j (by omega) c hc
      · by_cases ej : j = i
        · subst ej; exact absurd hs e0
        · exact h5 j (by omega) hs
    · by_cases e0 : σ.1 3 i = 0
      · simp only [if_neg e1, if_pos e0]
        refine ⟨by rw [h1]; simp only [u_nf, if_pos e0], by rw [h2]; simp only [u_ps, if_neg e1], by rw [h3]; simp only [u_pr, if_neg e1], fun j hj c hc => ?_, fun j hj hs => ?_⟩
        · by_cases ej : j = i + 1
          · subst ej
            rw [show u_nf σ (i + 1) = β.2.2.2.1 + 1 by rw [h1]; simp only [u_nf, if_pos e0]]
            rw [if_pos rfl]
            simp only [t_rc, if_pos (Nat.lt_succ_of_le hc), t_nv, u_tp, if_pos e0]
            rw [h1, h4 i (Nat.le_refl _) c hc, h4 i (Nat.le_refl _) _ (by omega)]
            rfl
          · have := u_nf_mono (σ := σ) (j := j) i (by omega)
            rw [if_neg (by omega)]
            exact h4 j (by omega) c hc
        · by_cases ej : j = i
          · subst ej
            simp only [upd, h1, if_pos]
          · have h9 := u_nf_mono (σ := σ) (j := j + 1) i (by omega)
            have h8 : u_nf σ (j + 1) = u_nf σ j + 1 := by simp only [u_nf, if_pos hs]
            simp only [upd, h1]
            rw [if_neg (by omega)]
            exact h5 j (by omega) hs
      · simp only [if_neg e1, if_neg e0]
        refine ⟨by rw [h1]; simp only [u_nf, if_neg e0], by rw [h2]; simp only [u_ps, if_neg e1], by rw [h3]; simp only [u_pr, if_neg e1], fun j hj c hc => ?_, fun j hj hs => ?_⟩
        · by_cases ej : j = i + 1
          · subst ej
            simp only [u_nf, u_tp, if_neg e0]
            exact h4 i (Nat.le_refl _) c hc
          · exact h4 j (by omega) c hc
        · by_cases ej : j = i
          · subst ej; exact absurd hs e0
          · exact h5 j (by omega) hs
theorem u_row0 {σ : s_D} {lc : Nat} {τ : s_Tb} {c : Nat} : ∀ i, (t_build σ lc τ i).1 0 c = τ.1 0 c
  | 0 => rfl
  | i + 1 => by
    show (t_step σ lc i (t_build σ lc τ i)).1 0 c = τ.1 0 c
    have ih := u_row0 (σ := σ) (lc := lc) (τ := τ) (c := c) i
    unfold t_step
    split
    · exact ih
    · split
      · simp only [if_neg (show ¬ (0 = (t_build σ lc τ i).2.2.2.1 + 1) by omega)]
        exact ih
      · exact ih
/-- a free item behind each row -/
theorem u_free {σ : s_D} {r : Nat} : ∀ i, r < u_nf σ i → ∃ j, j < i ∧ σ.1 3 j = 0 ∧ u_nf σ j = r
  | 0, h => by simp only [u_nf] at h; omega
  | i + 1, h => by
    by_cases e : r < u_nf σ i
    · obtain ⟨j, h1, h2⟩ := u_free i e
      exact ⟨j, by omega, h2⟩
    · by_cases e0 : σ.1 3 i = 0
      · simp only [u_nf, if_pos e0] at h
        exact ⟨i, by omega, e0, by omega⟩
      · simp only [u_nf, if_neg e0] at h
        exact absurd h e
/-- what a disk keeps to -/
def d_ok (σ : s_D) (cnt cp : Nat) : Prop := σ.2 0 = nI cnt ∧ cnt ≤ 14 ∧ σ.2 1 = nI cp ∧ cp ≤ 100 ∧ ∀ i, i < cnt → (∃ s, σ.1 0 i = nI s ∧ 1 ≤ s ∧ s ≤ 60) ∧ (∃ v, σ.1 1 i = nI v ∧ v ≤ 999) ∧ (∃ a, σ.1 2 i = nI a ∧ a ≤ 9) ∧ ∃ st, σ.1 3 i = nI st ∧ st ≤ 2
theorem u_ps_ok {σ : s_D} {cnt cp : Nat} (ok : d_ok σ cnt cp) : ∀ i, i ≤ cnt → ∃ P, u_ps σ i = nI P ∧ P ≤ 60 * i
  | 0, _ => ⟨0, rfl, Nat.le_refl _⟩
  | i + 1, hi => by
    obtain ⟨P, h1, h2⟩ := u_ps_ok ok i (by omega)
    obtain ⟨⟨s, e1, -, e3⟩, -⟩ := ok.2.2.2.2 i (by omega)
    by_cases e : σ.1 3 i = 1
    · exact ⟨P + s, by simp only [u_ps, if_pos e]; rw [h1, e1, nI_add], by omega⟩
    · exact ⟨P, by simp only [u_ps, if_neg e]; exact h1, by omega⟩
/-- the best rank for a capacity -/
def u_best (σ : s_D) (cnt cap : Nat) : Int64 := if nI cap - u_ps σ cnt < 0 then r_NP else u_pr σ cnt + u_tp σ cnt (nI cap - u_ps σ cnt).toNatClampNeg
theorem d_ok.sz {σ : s_D} {cnt cp : Nat} (ok : d_ok σ cnt cp) : ∀ i, i < cnt → ¬ σ.1 0 i < 0 := fun i hi => by
  obtain ⟨⟨s, e1, -, e3⟩, -⟩ := ok.2.2.2.2 i hi
  rw [e1]
  exact nI_pos (by omega)
theorem u_rm {σ : s_D} {cnt cp cap : Nat} (ok : d_ok σ cnt cp) (hc : cap ≤ 100) (h : ¬ nI cap - u_ps σ cnt < 0) : ∃ r, nI cap - u_ps σ cnt = nI r ∧ r ≤ cap := by
  obtain ⟨P, h1, h2⟩ := u_ps_ok ok cnt (Nat.le_refl _)
  have := ok.2.1
  rw [h1] at h ⊢
  by_cases e : P ≤ cap
  · exact ⟨cap - P, nI_sble e, by omega⟩
  · exact absurd (nI_sblt (by omega) (by omega)) h
theorem u_hz {σ : s_D} {cnt cp cap : Nat} (ok : d_ok σ cnt cp) (hc : cap ≤ 100) (h : ¬ nI cap - u_ps σ cnt < 0) : (nI cap - u_ps σ cnt).toNatClampNeg ≤ cap := by
  obtain ⟨r, h1, h2⟩ := u_rm ok hc h
  rw [h1, nI_clamp (by omega)]
  exact h2
theorem u_best_of {σ : s_D} {cnt cp cap lc : Nat} {τ : s_Tb} (ok : d_ok σ cnt cp) (h0 : ∀ c, c ≤ lc → τ.1 0 c = 0) (hc : cap ≤ lc) (hl : lc ≤ 100) : t_best (t_build σ lc τ cnt) (nI cap) = u_best σ cnt cap := by
  obtain ⟨h1, h2, h3, h4, -⟩ := u_build (σ := σ) h0 cnt
  unfold t_best u_best
  rw [h1, h2, h3]
  by_cases e : nI cap - u_ps σ cnt < 0
  · rw [if_pos e, if_pos e]
  · rw [if_neg e, if_neg e, h4 cnt (Nat.le_refl _) _ (Nat.le_trans (u_hz ok (by omega) e) hc)]
theorem u_hzb {σ : s_D} {cnt cp cap lc : Nat} {τ : s_Tb} (ok : d_ok σ cnt cp) (h0 : ∀ c, c ≤ lc → τ.1 0 c = 0) (hcap : cap ≤ 100) : ¬ nI cap - (t_build σ lc τ cnt).2.2.2.2.1 < 0 → (nI cap - (t_build σ lc τ cnt).2.2.2.2.1).toNatClampNeg < 101 := by
  rw [(u_build (σ := σ) h0 cnt).2.1]
  exact fun e => by have := u_hz ok hcap e; omega
theorem u_row_lt {σ : s_D} {cnt cp lc : Nat} {τ : s_Tb} (ok : d_ok σ cnt cp) (h0 : ∀ c, c ≤ lc → τ.1 0 c = 0) : (t_build σ lc τ cnt).2.2.2.1 < 15 := by
  rw [(u_build (σ := σ) h0 cnt).1]
  have := u_nf_le (σ := σ) cnt
  have := ok.2.1
  omega
