/-! THE COMPONENT: what changes would do -/
noncomputable def u_bestI (σ : s_D) (cnt : Nat) (cap : Int32) : Int64 := if cap - u_ps σ cnt < 0 then r_NP else u_pr σ cnt + u_tp σ cnt (cap - u_ps σ cnt).toNatClampNeg
theorem u_subsub {σ : s_D} {cnt cp s : Nat} (ok : d_ok σ cnt cp) (hs : s ≤ 60) : (nI cp - nI s - u_ps σ cnt < 0) ∨ ∃ r, nI cp - nI s - u_ps σ cnt = nI r ∧ r ≤ cp := by
  obtain ⟨P, h1, h2⟩ := u_ps_ok ok cnt (Nat.le_refl _)
  have h3 := ok.2.1
  have h4 := ok.2.2.2.1
  rw [h1]
  have e : nI cp - nI s - nI P = nI cp - nI (s + P) := by
    rw [← nI_add]
    exact Int32.sub_sub _ _ _
  rw [e]
  by_cases g : s + P ≤ cp
  · exact Or.inr ⟨cp - (s + P), nI_sble g, by omega⟩
  · exact Or.inl (nI_sblt (by omega) (by omega))
theorem u_hzI {σ : s_D} {cnt cp s lc : Nat} {τ : s_Tb} (ok : d_ok σ cnt cp) (h0 : ∀ c, c ≤ lc → τ.1 0 c = 0) (hs : s ≤ 60) : ¬ nI cp - nI s - (t_build σ lc τ cnt).2.2.2.2.1 < 0 → (nI cp - nI s - (t_build σ lc τ cnt).2.2.2.2.1).toNatClampNeg < 101 := by
  rw [(u_build (σ := σ) h0 cnt).2.1]
  intro g
  have h4 := ok.2.2.2.1
  rcases u_subsub ok hs with z | ⟨r, z, hr⟩
  · exact absurd z g
  · rw [z, nI_clamp (by omega)]
    omega
theorem u_bestI_of {σ : s_D} {cnt cp s : Nat} {τ : s_Tb} (ok : d_ok σ cnt cp) (h0 : ∀ c, c ≤ cp → τ.1 0 c = 0) (hs : s ≤ 60) : t_best (t_build σ cp τ cnt) (nI cp - nI s) = u_bestI σ cnt (nI cp - nI s) := by
  obtain ⟨h1, h2, h3, h4, -⟩ := u_build (σ := σ) h0 cnt
  have h9 := ok.2.2.2.1
  unfold t_best u_bestI
  rw [h1, h2, h3]
  rcases u_subsub ok hs with z | ⟨r, z, hr⟩
  · rw [if_pos z, if_pos z]
  · rw [z, if_neg (nI_pos (by omega)), if_neg (nI_pos (by omega)), nI_clamp (by omega), h4 cnt (Nat.le_refl _) r hr]
theorem d_eq.bestI {cnt : Nat} {σ τ : s_D} {c : Int32} (q : d_eq cnt σ τ) : u_bestI σ cnt c = u_bestI τ cnt c := by
  unfold u_bestI
  rw [q.ps cnt (Nat.le_refl _), q.pr cnt (Nat.le_refl _), q.tp cnt (Nat.le_refl _)]
/-- the least value from v on with which the item goes along -/
def v_vn (oth wo : Int64) (a sz bt : Int32) : Nat → Nat → Int32
  | 0, _ => -1
  | k + 1, v => if wo < oth + r_rank (nI v * (1 + a)) sz bt then nI v else v_vn oth wo a sz bt k (v + 1)

theorem v_cmp (x y : Int64) : (0 : Int32) < lg_cmp x y ↔ y < x := by rw [← Int32.not_le, lg_cmp_le, Int64.not_le]
