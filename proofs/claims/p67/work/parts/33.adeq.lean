/-! disks that agree in all that counts -/
def d_eq (cnt : Nat) (σ τ : s_D) : Prop := (∀ k, k < 5 → σ.2 k = τ.2 k) ∧ ∀ f, f < 4 → ∀ i, i < cnt → σ.1 f i = τ.1 f i
theorem d_eq.rf {cnt : Nat} {σ : s_D} : d_eq cnt σ σ := ⟨fun _ _ => rfl, fun _ _ _ _ => rfl⟩
theorem d_eq.sy {cnt : Nat} {σ τ : s_D} (q : d_eq cnt σ τ) : d_eq cnt τ σ := ⟨fun k h => (q.1 k h).symm, fun f hf i hi => (q.2 f hf i hi).symm⟩
theorem d_eq.tr {cnt : Nat} {σ τ υ : s_D} (q : d_eq cnt σ τ) (r : d_eq cnt τ υ) : d_eq cnt σ υ := ⟨fun k h => (q.1 k h).trans (r.1 k h), fun f hf i hi => (q.2 f hf i hi).trans (r.2 f hf i hi)⟩
theorem d_eq.ok {cnt cp : Nat} {σ τ : s_D} (q : d_eq cnt σ τ) (ok : d_ok σ cnt cp) : d_ok τ cnt cp := by
  obtain ⟨h1, h2, h3, h4, h5⟩ := ok
  refine ⟨(q.1 0 (by omega)).symm.trans h1, h2, (q.1 1 (by omega)).symm.trans h3, h4, fun i hi => ?_⟩
  have := h5 i hi
  rw [q.2 0 (by omega) i hi, q.2 1 (by omega) i hi, q.2 2 (by omega) i hi, q.2 3 (by omega) i hi] at this
  exact this
theorem d_eq.wt {cnt i : Nat} {σ τ : s_D} (q : d_eq cnt σ τ) (hi : i < cnt) : d_wt σ i = d_wt τ i := by
  unfold d_wt
  rw [q.2 1 (by omega) i hi, q.2 2 (by omega) i hi]
theorem d_eq.ir {cnt i : Nat} {σ τ : s_D} (q : d_eq cnt σ τ) (hi : i < cnt) : u_ir σ i = u_ir τ i := by
  unfold u_ir
  rw [q.wt hi, q.2 0 (by omega) i hi]
theorem d_eq.set {cnt : Nat} {σ τ : s_D} (q : d_eq cnt σ τ) {st : Int32} : ∀ i, i ≤ cnt → d_set σ st i = d_set τ st i
  | 0, _ => rfl
  | i + 1, h => by
    unfold d_set
    rw [q.set i (by omega), q.2 3 (by omega) i (by omega)]
theorem d_tot_eq {f g : Nat → Int32} {s : Int32} {cnt : Nat} (h : ∀ i, i < cnt → f i = g i) : ∀ i, i ≤ cnt → d_tot f s i = d_tot g s i
  | 0, _ => rfl
  | i + 1, hi => by
    unfold d_tot
    rw [d_tot_eq h i (by omega), h i (by omega)]
theorem d_eq.ps {cnt : Nat} {σ τ : s_D} (q : d_eq cnt σ τ) : ∀ i, i ≤ cnt → u_ps σ i = u_ps τ i
  | 0, _ => rfl
  | i + 1, h => by
    unfold u_ps
    rw [q.ps i (by omega), q.2 3 (by omega) i (by omega), q.2 0 (by omega) i (by omega)]
theorem d_eq.pr {cnt : Nat} {σ τ : s_D} (q : d_eq cnt σ τ) : ∀ i, i ≤ cnt → u_pr σ i = u_pr τ i
  | 0, _ => rfl
  | i + 1, h => by
    unfold u_pr
    rw [q.pr i (by omega), q.2 3 (by omega) i (by omega), q.ir (by omega)]
theorem d_eq.nf {cnt : Nat} {σ τ : s_D} (q : d_eq cnt σ τ) : ∀ i, i ≤ cnt → u_nf σ i = u_nf τ i
  | 0, _ => rfl
  | i + 1, h => by
    unfold u_nf
    rw [q.nf i (by omega), q.2 3 (by omega) i (by omega)]
theorem d_eq.tp {cnt : Nat} {σ τ : s_D} (q : d_eq cnt σ τ) : ∀ i, i ≤ cnt → ∀ c, u_tp σ i c = u_tp τ i c
  | 0, _, _ => rfl
  | i + 1, h, c => by
    unfold u_tp
    rw [q.tp i (by omega), q.tp i (by omega), q.2 3 (by omega) i (by omega), q.ir (by omega), q.2 0 (by omega) i (by omega)]
theorem d_eq.best {cnt c : Nat} {σ τ : s_D} (q : d_eq cnt σ τ) : u_best σ cnt c = u_best τ cnt c := by
  unfold u_best
  rw [q.ps cnt (Nat.le_refl _), q.pr cnt (Nat.le_refl _), q.tp cnt (Nat.le_refl _)]
theorem d_eq.room {cnt : Nat} {σ τ : s_D} (q : d_eq cnt σ τ) : d_room σ cnt = d_room τ cnt := by
  unfold d_room
  rw [q.1 1 (by omega), q.set cnt (Nat.le_refl _), d_tot_eq (fun i hi => q.2 0 (by omega) i hi) cnt (Nat.le_refl _)]
/-- a field of an item is set -/
def d_put (σ : s_D) (f i : Nat) (x : Int32) : s_D := (fun g => if g = f then upd (σ.1 f) i x else σ.1 g, σ.2)
theorem d_eq.put {cnt f i : Nat} {x : Int32} {σ τ : s_D} (q : d_eq cnt σ τ) (hf : f < 4) : d_eq cnt (d_put σ f i x) (d_put τ f i x) := by
  refine ⟨q.1, fun g hg j hj => ?_⟩
  simp only [d_put]
  by_cases e : g = f
  · rw [if_pos e, if_pos e]
    simp only [upd]
    split
    · rfl
    · exact q.2 f hf j hj
  · rw [if_neg e, if_neg e]
    exact q.2 g hg j hj
theorem d_eq.cpy {cnt : Nat} (h : cnt ≤ 14) (σ τ : s_D) : d_eq cnt (d_cpy σ τ) σ := by
  refine ⟨fun _ _ => rfl, fun f hf i hi => ?_⟩
  simp only [d_cpy, va_cpy]
  rw [if_pos (by omega), Nat.zero_add, Nat.sub_zero]
/-- a state is set: what the disk keeps to -/
theorem d_ok.put3 {σ : s_D} {cnt cp i st : Nat} (ok : d_ok σ cnt cp) (hst : st ≤ 2) : d_ok (d_put σ 3 i (nI st)) cnt cp := by
  obtain ⟨h1, h2, h3, h4, h5⟩ := ok
  refine ⟨h1, h2, h3, h4, fun j hj => ?_⟩
  obtain ⟨a1, a2, a3, a4⟩ := h5 j hj
  refine ⟨a1, a2, a3, ?_⟩
  show ∃ s, (if j = i then nI st else σ.1 3 j) = nI s ∧ s ≤ 2
  by_cases e : j = i
  · rw [if_pos e]; exact ⟨st, rfl, hst⟩
  · rw [if_neg e]; exact a4
/-- the items behind a row of the table -/
def u_at (σ : s_D) (r : Nat) : Nat → Nat
  | 0 => 0
  | i + 1 => if u_nf σ (i + 1) ≤ r then i + 1 else u_at σ r i
theorem u_at_ok {σ : s_D} {r : Nat} : ∀ i, r ≤ u_nf σ i → u_at σ r i ≤ i ∧ u_nf σ (u_at σ r i) = r
  | 0, h => ⟨Nat.le_refl _, by simp only [u_nf] at h; simp only [u_at, u_nf]; omega⟩
  | i + 1, h => by
    unfold u_at
    by_cases e : u_nf σ (i + 1) ≤ r
    · rw [if_pos e]
      exact ⟨Nat.le_refl _, by omega⟩
    · rw [if_neg e]
      have h9 : u_nf σ (i + 1) ≤ u_nf σ i + 1 := by
        show (if σ.1 3 i = 0 then u_nf σ i + 1 else u_nf σ i) ≤ _
        split <;> omega
      obtain ⟨a, b⟩ := u_at_ok (σ := σ) (r := r) i (by omega)
      exact ⟨by omega, b⟩
/-- a cell of the table -/
def u_cell (σ : s_D) (cnt r c : Nat) : Int32 := r_wt (u_tp σ (u_at σ r cnt) c)
theorem u_cell_of {σ : s_D} {cnt lc r c : Nat} {τ : s_Tb} (h0 : ∀ c, c ≤ lc → τ.1 0 c = 0) (hr : r ≤ u_nf σ cnt) (hc : c ≤ lc) : r_wt ((t_build σ lc τ cnt).1 r c) = u_cell σ cnt r c := by
  obtain ⟨h1, h2⟩ := u_at_ok cnt hr
  unfold u_cell
  rw [← (u_build (σ := σ) h0 cnt).2.2.2.1 _ h1 c hc, h2]
theorem u_items {σ : s_D} {cnt cp lc : Nat} {τ : s_Tb} (ok : d_ok σ cnt cp) (h0 : ∀ c, c ≤ lc → τ.1 0 c = 0) : ∀ r, r < (t_build σ lc τ cnt).2.2.2.1 → (t_build σ lc τ cnt).2.1 r = nI ((t_build σ lc τ cnt).2.1 r).toNatClampNeg ∧ ((t_build σ lc τ cnt).2.1 r).toNatClampNeg < 14 ∧ ¬ σ.1 0 ((t_build σ lc τ cnt).2.1 r).toNatClampNeg < 0 := by
  intro r hr
  obtain ⟨h1, -, -, -, h5⟩ := u_build (σ := σ) h0 cnt
  rw [h1] at hr
  obtain ⟨j, g1, g2, g3⟩ := u_free cnt hr
  have e := h5 j g1 g2
  rw [g3] at e
  have := ok.2.1
  rw [e, nI_clamp (by omega)]
  exact ⟨rfl, by omega, ok.sz j g1⟩
