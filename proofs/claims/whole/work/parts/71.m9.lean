/-! THE MODEL: all of it, beside the planner's state -/
theorem m_ps.kp {h h1 : s_H} {m : Nat} {pm : Nat → Nat} {P : Nat → Nat → Int32} (q : m_ps h m pm P) (z : ∀ j, m + 2 ≤ j → j < m + 13 → h1 j = h j) : m_ps h1 m pm P := by
  obtain ⟨⟨f, q1, q2⟩, q3, q4, q5⟩ := q
  exact ⟨⟨f, (z _ (by omega) (by omega)).trans q1, q2⟩, q3, q4, fun i hi => (z _ (by omega) (by have := q3 i hi; omega)).trans (q5 i hi)⟩
def m_pl (h : s_H) (m : Nat) (I w sn : Nat → Int32) (P : Nat → Nat → Int32) (tx rp : Nat → Int32) : Prop :=
  m_at h m I w ∧ (∃ pm, m_ps h m pm P) ∧ h (m + 13) = .inl (0, 61, .inl sn) ∧ (∃ f, h (m + 14) = .inl (0, 61, .inl f)) ∧ (∃ f, h (m + 15) = .inl (0, 61, .inl f)) ∧ h (m + 16) = .inl (0, 500, .inl tx) ∧ h (m + 17) = .inl (2, 1300, .inl rp) ∧ m_ta h m
/-- the present state, the fields, the table have changed -/
theorem m_pl.q {h h1 : s_H} {m : Nat} {I w sn tx rp I1 w1 : Nat → Int32} {P : Nat → Nat → Int32} (q : m_pl h m I w sn P tx rp) (z : s_off2 h h1 m (m + 2) (m + 18) (m + 21)) (hM : m_at h1 m I1 w1) (hT : m_ta h1 m) : m_pl h1 m I1 w1 sn P tx rp := by
  obtain ⟨-, ⟨pm, q2⟩, q3, ⟨f, q4⟩, ⟨g, q5⟩, q6, q7, -⟩ := q
  exact ⟨hM, ⟨pm, q2.kp (fun j a b => z j (by omega) (by omega))⟩, (z _ (by omega) (by omega)).trans q3, ⟨f, (z _ (by omega) (by omega)).trans q4⟩, ⟨g, (z _ (by omega) (by omega)).trans q5⟩, (z _ (by omega) (by omega)).trans q6, (z _ (by omega) (by omega)).trans q7, hT⟩
def m_r1 (w : Nat → Int32) (π : s_Pl) : Prop := ∃ cnt cp, d_ok π.1 cnt cp ∧ d_eq cnt (m_D w) π.1
def m_r2 (I sn : Nat → Int32) (π : s_Pl) : Prop := I 5 = π.2.2.1 ∧ (π.2.2.1 = 0 ∨ (π.2.2.1 = 1 ∧ ∃ c p, d_ok π.2.1 c p ∧ d_eq c (m_D sn) π.2.1))
def m_r3 (I : Nat → Int32) (P : Nat → Nat → Int32) (π : s_Pl) : Prop := π.2.2.2.2.1 ≤ 10 ∧ I 3 = nI π.2.2.2.2.1 ∧ ∀ i, i < π.2.2.2.2.1 → ∃ c p, d_ok (π.2.2.2.1 i) c p ∧ d_eq c (m_D (P i)) (π.2.2.2.1 i)
def m_r4 (I tx : Nat → Int32) (π : s_Pl) : Prop := π.2.2.2.2.2.2.1 ≤ 500 ∧ I 9 = nI π.2.2.2.2.2.2.1 ∧ ∀ i, i < π.2.2.2.2.2.2.1 → tx i = π.2.2.2.2.2.1 i &&& 255
def m_r5 (I : Nat → Int32) (π : s_Pl) : Prop := I 23 = π.2.2.2.2.2.2.2.1 ∧ I 24 = π.2.2.2.2.2.2.2.2.1
def m_r6 (I rp : Nat → Int32) (π : s_Pl) : Prop := π.2.2.2.2.2.2.2.2.2.length ≤ 1200 ∧ I 11 = nI π.2.2.2.2.2.2.2.2.2.length ∧ ∀ i, i < π.2.2.2.2.2.2.2.2.2.length → rp i = π.2.2.2.2.2.2.2.2.2.getD i 0
def m_rr (I sn : Nat → Int32) (P : Nat → Nat → Int32) (tx rp : Nat → Int32) (π : s_Pl) : Prop := m_r2 I sn π ∧ m_r3 I P π ∧ m_r4 I tx π ∧ m_r5 I π ∧ m_r6 I rp π
/-- the model stands beside the planner's state π, its code of exceptions is t -/
def m_R (h : s_H) (m : Nat) (π : s_Pl) (t : Int32) : Prop := ∃ (I w sn : Nat → Int32) (P : Nat → Nat → Int32) (tx rp : Nat → Int32), m_pl h m I w sn P tx rp ∧ I 0 = t ∧ m_r1 w π ∧ m_rr I sn P tx rp π
theorem m_at.th {h h1 : s_H} {m : Nat} {I w : Nat → Int32} {x : Int32} (q : m_at h m I w) (e : h1 = s_up h m (.inr (7, (m_fs m I).set 0 (.int x)))) : m_at h1 m (upd I 0 x) w := ⟨s_up_at e, s_up_off e (by omega) q.2⟩
/-- what nobody changed but the code of exceptions -/
theorem m_R_q {h h1 : s_H} {m : Nat} {I w sn tx rp : Nat → Int32} {P : Nat → Nat → Int32} {π : s_Pl} {t : Int32} (q : m_pl h m I w sn P tx rp) (r1 : m_r1 w π) (rr : m_rr I sn P tx rp π) (hM : m_at h1 m (upd I 0 t) w) (hT : m_ta h1 m) (z : s_off2 h h1 m (m + 2) (m + 18) (m + 21)) : m_R h1 m π t :=
  ⟨upd I 0 t, w, sn, P, tx, rp, q.q z hM hT, upd_at, r1, rr⟩
/-! disks that agree: what comes of their order -/
theorem d_eq.bf {cnt i j : Nat} {σ τ : s_D} (q : d_eq cnt σ τ) (hi : i < cnt) (hj : j < cnt) : g_bf σ i j ↔ g_bf τ i j := by
  unfold g_bf
  rw [q.wt hi, q.wt hj, q.2 0 (by omega) i hi, q.2 0 (by omega) j hj]
theorem g_pl_le {σ : s_D} {item : Nat} {o : Nat → Nat} : ∀ l, g_pl σ item o l ≤ l
  | 0 => Nat.le_refl _
  | l + 1 => by
    have := g_pl_le (σ := σ) (item := item) (o := o) l
    unfold g_pl
    split <;> omega
theorem d_eq.srt {cnt : Nat} {σ τ : s_D} (q : d_eq cnt σ τ) : ∀ i, i ≤ cnt → g_srt σ i = g_srt τ i
  | 0, _ => rfl
  | i + 1, h => by
    have ih := q.srt i (by omega)
    have hp : ∀ (o : Nat → Nat) (l : Nat), (∀ p, p < l → o p < cnt) → g_pl σ i o l = g_pl τ i o l := fun o l => by
      induction l with
      | zero => exact fun _ => rfl
      | succ l ihl =>
        intro ho
        unfold g_pl
        rw [ihl (fun p hp => ho p (by omega))]
        have e := q.bf (show i < cnt by omega) (ho l (by omega))
        by_cases hb : g_bf τ i (o l)
        · rw [if_pos hb, if_pos (e.mpr hb)]
        · rw [if_neg hb, if_neg (fun z => hb (e.mp z))]
    unfold g_srt
    rw [ih, q.2 3 (by omega) i (by omega), hp _ _ (fun p hp2 => by have := g_srt_lt i p hp2; omega)]
theorem d_eq.tf {cnt : Nat} {σ τ : s_D} (q : d_eq cnt σ τ) {o : Nat → Nat} {s0 r0 : Int32} : ∀ l, (∀ p, p < l → o p < cnt) → g_tf σ o s0 r0 l = g_tf τ o s0 r0 l
  | 0, _ => rfl
  | l + 1, h => by
    unfold g_tf
    rw [q.tf l (fun p hp => h p (by omega)), q.2 0 (by omega) _ (h l (by omega))]
theorem d_eq.bd {cnt : Nat} {σ τ : s_D} (q : d_eq cnt σ τ) {o : Nat → Nat} : ∀ k p w r, (∀ x, x < p + k → o x < cnt) → g_bd σ o k p w r = g_bd τ o k p w r
  | 0, _, _, _, _ => rfl
  | k + 1, p, w, r, h => by
    unfold g_bd
    rw [q.2 0 (by omega) _ (h p (by omega)), q.wt (h p (by omega)), q.bd k (p + 1) _ _ (fun x hx => h x (by omega))]
theorem d_eq.gp {cnt : Nat} {σ τ : s_D} (q : d_eq cnt σ τ) : v_gp σ cnt = v_gp τ cnt := by
  unfold v_gp
  rw [q.srt cnt (Nat.le_refl _), q.set cnt (Nat.le_refl _), q.room, q.tf _ (fun p hp => g_srt_lt cnt p hp)]
theorem d_eq.totw {cnt : Nat} {σ τ : s_D} (q : d_eq cnt σ τ) {s : Int32} : d_tot (d_wt σ) s cnt = d_tot (d_wt τ) s cnt := d_tot_eq (fun i hi => q.wt hi) cnt (Nat.le_refl _)
theorem d_eq.tots {cnt : Nat} {σ τ : s_D} (q : d_eq cnt σ τ) {s : Int32} : d_tot (σ.1 0) s cnt = d_tot (τ.1 0) s cnt := d_tot_eq (fun i hi => q.2 0 (by omega) i hi) cnt (Nat.le_refl _)
theorem d_eq.vbd {cnt : Nat} {σ τ : s_D} (q : d_eq cnt σ τ) : v_bd σ cnt = v_bd τ cnt := by
  unfold v_bd
  rw [q.srt cnt (Nat.le_refl _), q.set cnt (Nat.le_refl _), q.room, q.totw, q.bd _ _ _ _ (fun x hx => g_srt_lt cnt x (by omega))]
theorem d_eq.at {cnt r : Nat} {σ τ : s_D} (q : d_eq cnt σ τ) : ∀ i, i ≤ cnt → u_at σ r i = u_at τ r i
  | 0, _ => rfl
  | i + 1, h => by
    unfold u_at
    rw [q.nf (i + 1) h, q.at i (by omega)]
theorem d_eq.cell {cnt r c : Nat} {σ τ : s_D} (q : d_eq cnt σ τ) : u_cell σ cnt r c = u_cell τ cnt r c := by
  unfold u_cell
  rw [q.at cnt (Nat.le_refl _), q.tp _ (m_u_at τ r cnt)]
theorem d_eq.set' {cnt : Nat} {σ τ : s_D} (q : d_eq cnt σ τ) {st : Int32} : d_set σ st cnt = d_set τ st cnt := q.set cnt (Nat.le_refl _)
