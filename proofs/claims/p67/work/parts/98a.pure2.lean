/-! PURE: what whole's parts of the model say without the model (chosen by wip/p67/pure2.py) -/
theorem m_prod {a b : Nat} (ha : a ≤ 9990) (hb : b ≤ 60) : a * b ≤ 599400 := Nat.le_trans (Nat.mul_le_mul ha hb) (by decide)
theorem nI_lti {a b : Nat} (ha : a < 2147483648) (hb : b < 2147483648) : nI a < nI b ↔ a < b := by
  rw [Int32.lt_iff_toInt_lt, nI_ti ha, nI_ti hb]
  omega
theorem nI_eqi {a b : Nat} (ha : a < 2147483648) (hb : b < 2147483648) : nI a = nI b ↔ a = b := ⟨nI_inj ha hb, fun z => by rw [z]⟩
/-- the products that are compared -/
theorem m_dn {σ : s_D} {cnt cp i j : Nat} (ok : d_ok σ cnt cp) (hi : i < cnt) (hj : j < cnt) : d_wt σ i * σ.1 0 j = nI (k_w σ i * k_s σ j) ∧ k_w σ i * k_s σ j ≤ 599400 := by
  obtain ⟨-, -, -, h1, h2⟩ := k_it ok hi
  obtain ⟨h3, -, h4, -, -⟩ := k_it ok hj
  rw [h1, h3, nI_mul]
  exact ⟨rfl, m_prod h2 h4⟩
theorem g_bf_ka {σ : s_D} {cnt cp i j : Nat} (ok : d_ok σ cnt cp) (hi : i < cnt) (hj : j < cnt) : g_bf σ i j ↔ ka_bf (k_w σ) (k_s σ) i j := by
  obtain ⟨e1, b1⟩ := m_dn ok hi hj
  obtain ⟨e2, b2⟩ := m_dn ok hj hi
  obtain ⟨s1, -, s2, -, -⟩ := k_it ok hi
  obtain ⟨s3, -, s4, -, -⟩ := k_it ok hj
  unfold g_bf ka_bf
  rw [e1, e2, s1, s3, nI_lti (by omega) (by omega), nI_lti (by omega) (by omega), nI_eqi (by omega) (by omega)]
theorem m_T {P Q : Nat → Nat → Prop} {i j : Nat} (h1 : P i j ↔ Q i j) (h2 : P j i ↔ Q j i) : ka_T P i j ↔ ka_T Q i j := by
  unfold ka_T
  rw [h1, h2]
theorem g_bf_tr {σ : s_D} {cnt cp : Nat} (ok : d_ok σ cnt cp) : ka_tr (g_bf σ) cnt := by
  have h := ka_bf_tr (w := k_w σ) (s := k_s σ) (n := cnt) (fun i hi => (k_it ok hi).2.1)
  have e : ∀ i j, i < cnt → j < cnt → (g_bf σ i j ↔ ka_bf (k_w σ) (k_s σ) i j) := fun i j hi hj => g_bf_ka ok hi hj
  refine ⟨fun i j k hi hj hk => ?_, fun i hi => ?_, fun i j hi hj => ?_⟩
  · rw [m_T (e i j hi hj) (e j i hj hi), m_T (e j k hj hk) (e k j hk hj), m_T (e i k hi hk) (e k i hk hi)]
    exact h.1 i j k hi hj hk
  · rw [e i i hi hi]; exact h.2.1 i hi
  · rw [e i j hi hj, e j i hj hi]; exact h.2.2 i j hi hj
theorem g_srt_ka {σ : s_D} : ∀ i, g_srt σ i = ka_srt (g_bf σ) (k_f σ) i
  | 0 => rfl
  | i + 1 => by
    have hp : ∀ (o : Nat → Nat) (l : Nat), g_pl σ i o l = ka_pl (g_bf σ) i o l := fun o l => by
      induction l with
      | zero => rfl
      | succ l ih => unfold g_pl ka_pl; rw [ih]
    unfold g_srt ka_srt
    rw [g_srt_ka i, hp]
    by_cases hf : σ.1 3 i = 0
    · rw [if_pos hf, if_pos (show k_f σ i = true from decide_eq_true hf)]
      rfl
    · rw [if_neg hf, if_neg (show ¬ k_f σ i = true from fun z => hf (of_decide_eq_true z))]
theorem m_sub {a b : Nat} (ha : a ≤ 1000000) (hb : b ≤ 1000000) : (nI a - nI b = 0 ↔ a = b) ∧ (nI a - nI b ≤ 0 ↔ a ≤ b) := by
  have e : (nI a - nI b).toInt = (a : Int) - b := by
    rw [Int32.toInt_sub, nI_ti (by omega), nI_ti (by omega)]
    exact Int.bmod_eq_of_le (by omega) (by omega)
  have e0 : (0 : Int32).toInt = 0 := rfl
  constructor
  · rw [← Int32.toInt_inj, e, e0]
    omega
  · rw [Int32.le_iff_toInt_le, e, e0]
    omega

theorem m_o {σ : s_D} {cnt cp q : Nat} (ok : d_ok σ cnt cp) (h : q < (g_srt σ cnt).2) : (g_srt σ cnt).1 q < cnt := by
  rw [g_srt_ka] at h ⊢
  exact ((ka_srt_ok (fr := k_f σ) (g_bf_tr ok) cnt (Nat.le_refl _)).1 q h).1
theorem m_tfM {σ : s_D} {cnt cp : Nat} (ok : d_ok σ cnt cp) : ∀ q, q ≤ (g_srt σ cnt).2 → ∃ M, M < 16384 ∧ (g_tf σ (g_srt σ cnt).1 (d_set σ 1 cnt) (d_room σ cnt) q).1 = nI M
  | 0, _ => by
    have h14 := ok.2.1
    exact ⟨_, ka_M14 h14, k_dset (by omega)⟩
  | q + 1, h => by
    have h14 := ok.2.1
    obtain ⟨M, h1, h2⟩ := m_tfM ok q (by omega)
    have ho := m_o ok (show q < (g_srt σ cnt).2 by omega)
    unfold g_tf
    split
    · exact ⟨M, h1, h2⟩
    · refine ⟨M ||| 2 ^ (g_srt σ cnt).1 q, Nat.or_lt_two_pow (n := 14) h1 (Nat.pow_lt_pow_right (by omega) (by omega)), ?_⟩
      dsimp only
      rw [h2, b_sh _ (by omega), nI_or]
theorem d_eq.bf {cnt i j : Nat} {σ τ : s_D} (q : d_eq cnt σ τ) (hi : i < cnt) (hj : j < cnt) : g_bf σ i j ↔ g_bf τ i j := by
  unfold g_bf
  rw [q.wt hi, q.wt hj, q.2 0 (by omega) i hi, q.2 0 (by omega) j hj]
theorem d_eq.srt {cnt : Nat} {σ τ : s_D} (q : d_eq cnt σ τ) : ∀ i, i ≤ cnt → g_srt σ i = g_srt τ i
  | 0, _ => rfl
  | i + 1, h => by
    have ih := q.srt i (by omega)
    have hp : ∀ (o : Nat → Nat) (l : Nat), (∀ p, p < l → o p < cnt) → g_pl σ i o l = g_pl τ i o l := fun o l => by
      induction l with
      | zero => exact fun _ => rfl
      | succ l ihl =>
        intro ho
        unfold g_pl
        rw [ihl (fun p hp => ho p (by omega))]
        have e := q.bf (show i < cnt by omega) (ho l (by omega))
        by_cases hb : g_bf τ i (o l)
        · rw [if_pos hb, if_pos (e.mpr hb)]
        · rw [if_neg hb, if_neg (fun z => hb (e.mp z))]
    unfold g_srt
    rw [ih, q.2 3 (by omega) i (by omega), hp _ _ (fun p hp2 => by have := g_srt_lt i p hp2; omega)]
theorem d_eq.tf {cnt : Nat} {σ τ : s_D} (q : d_eq cnt σ τ) {o : Nat → Nat} {s0 r0 : Int32} : ∀ l, (∀ p, p < l → o p < cnt) → g_tf σ o s0 r0 l = g_tf τ o s0 r0 l
  | 0, _ => rfl
  | l + 1, h => by
    unfold g_tf
    rw [q.tf l (fun p hp => h p (by omega)), q.2 0 (by omega) _ (h l (by omega))]
theorem d_eq.bd {cnt : Nat} {σ τ : s_D} (q : d_eq cnt σ τ) {o : Nat → Nat} : ∀ k p w r, (∀ x, x < p + k → o x < cnt) → g_bd σ o k p w r = g_bd τ o k p w r
  | 0, _, _, _, _ => rfl
  | k + 1, p, w, r, h => by
    unfold g_bd
    rw [q.2 0 (by omega) _ (h p (by omega)), q.wt (h p (by omega)), q.bd k (p + 1) _ _ (fun x hx => h x (by omega))]
theorem k_B {σ : s_D} {cnt cp i c : Nat} (ok : d_ok σ cnt cp) (hi : i ≤ cnt) (hc : c ≤ 100) : r_wt (u_tp σ i c) = nI (ka_B (k_f σ) (k_w σ) (k_s σ) i c) ∧ ka_B (k_f σ) (k_w σ) (k_s σ) i c ≤ 9990 * i := by
  have h14 := ok.2.1
  obtain ⟨b1, b2⟩ := ka_B_tp (fr := k_f σ) (w := k_w σ) (s := k_s σ) i (by omega) c (by omega)
  obtain ⟨t1, t2, t3⟩ := k_t_ok σ i c
  have hb := k_psb ok (t := k_t σ i c) i hi
  have hM := ka_M14 (t := k_t σ i c) (n := i) (by omega)
  have hp : ka_p2 i ≤ 16384 := by
    have := ka_p2_le (show i ≤ 14 by omega)
    have e : ka_p2 14 = 16384 := by decide
    omega
  have e : ka_sm (k_w σ) (k_t σ i c) i = ka_B (k_f σ) (k_w σ) (k_s σ) i c := by
    unfold ka_rk at t3
    omega
  rw [(kb_wt ((k_tp ok i hi c).trans t3) (by omega) (by omega) hM).1, e]
  exact ⟨rfl, by omega⟩
/-- the planner's ways are the sets that weigh most -/
theorem m_ow {σ : s_D} {cnt cp rm : Nat} {τ : s_Tb} (ok : d_ok σ cnt cp) (h0 : ∀ c, c ≤ 100 → τ.1 0 c = 0) (hrm : rm ≤ 100) : ∀ i, i ≤ cnt → ∀ x, x ≤ rm → t_ow (t_build σ 100 τ cnt) σ rm (u_nf σ i) x = nI (ka_y (k_f σ) (k_w σ) (k_s σ) i x)
  | 0, _, x, hx => by
    show t_one _ (rm + 1) x = _
    unfold t_one
    rw [if_pos (by omega)]
    rfl
  | i + 1, hi, x, hx => by
    have h14 := ok.2.1
    have ih := m_ow ok h0 hrm i (by omega)
    obtain ⟨b1, -, -, b4, b5⟩ := u_build (σ := σ) (τ := τ) h0 cnt
    by_cases hf : σ.1 3 i = 0
    · have e1 : u_nf σ (i + 1) = u_nf σ i + 1 := by simp only [u_nf, if_pos hf]
      obtain ⟨s1, s2, s3, w1, w2⟩ := k_it ok (show i < cnt by omega)
      have hit := b5 i (by omega) hf
      have ey : ka_y (k_f σ) (k_w σ) (k_s σ) (i + 1) x = (if ka_B (k_f σ) (k_w σ) (k_s σ) i x = ka_B (k_f σ) (k_w σ) (k_s σ) (i + 1) x then ka_y (k_f σ) (k_w σ) (k_s σ) i x else 0) + (if k_s σ i ≤ x ∧ ka_B (k_f σ) (k_w σ) (k_s σ) i (x - k_s σ i) + k_w σ i = ka_B (k_f σ) (k_w σ) (k_s σ) (i + 1) x then ka_y (k_f σ) (k_w σ) (k_s σ) i (x - k_s σ i) else 0) := if_pos (decide_eq_true hf)
      rw [e1, ey]
      show t_wq _ _ _ _ _ _ _ _ = _
      unfold t_wq
      rw [if_pos ⟨Nat.zero_le _, hx⟩, hit, nI_clamp (by omega)]
      show t_nw _ _ _ (k_s σ i) _ x = _
      unfold t_nw
      have r0 := b4 i (by omega) x (by omega)
      have r1 := b4 (i + 1) hi x (by omega)
      have rs := b4 i (by omega) (x - k_s σ i) (by omega)
      rw [e1] at r1
      rw [r0, r1, rs, ih x hx, ih (x - k_s σ i) (by omega), w1]
      obtain ⟨c1, d1⟩ := k_B ok (i := i) (c := x) (by omega) (by omega)
      obtain ⟨c2, d2⟩ := k_B ok (i := i + 1) (c := x) hi (by omega)
      obtain ⟨c3, d3⟩ := k_B ok (i := i) (c := x - k_s σ i) (by omega) (by omega)
      rw [c1, c2, c3, nI_add]
      have q1 : (nI (ka_B (k_f σ) (k_w σ) (k_s σ) i (x - k_s σ i) + k_w σ i) = nI (ka_B (k_f σ) (k_w σ) (k_s σ) (i + 1) x)) ↔ (ka_B (k_f σ) (k_w σ) (k_s σ) i (x - k_s σ i) + k_w σ i = ka_B (k_f σ) (k_w σ) (k_s σ) (i + 1) x) := nI_eqi (by omega) (by omega)
      have q2 : (nI (ka_B (k_f σ) (k_w σ) (k_s σ) i x) = nI (ka_B (k_f σ) (k_w σ) (k_s σ) (i + 1) x)) ↔ (ka_B (k_f σ) (k_w σ) (k_s σ) i x = ka_B (k_f σ) (k_w σ) (k_s σ) (i + 1) x) := nI_eqi (by omega) (by omega)
      by_cases z1 : k_s σ i ≤ x ∧ ka_B (k_f σ) (k_w σ) (k_s σ) i (x - k_s σ i) + k_w σ i = ka_B (k_f σ) (k_w σ) (k_s σ) (i + 1) x
      · rw [if_pos z1, if_pos (⟨z1.1, q1.mpr z1.2⟩ : k_s σ i ≤ x ∧ nI (ka_B (k_f σ) (k_w σ) (k_s σ) i (x - k_s σ i) + k_w σ i) = nI (ka_B (k_f σ) (k_w σ) (k_s σ) (i + 1) x))]
        by_cases z2 : ka_B (k_f σ) (k_w σ) (k_s σ) i x = ka_B (k_f σ) (k_w σ) (k_s σ) (i + 1) x
        · rw [if_pos z2, if_pos (q2.mpr z2), nI_add]
        · rw [if_neg z2, if_neg (fun z => z2 (q2.mp z))]
          exact nI_add 0 _
      · rw [if_neg z1, if_neg (fun z => z1 ⟨z.1, q1.mp z.2⟩ : ¬ (k_s σ i ≤ x ∧ nI (ka_B (k_f σ) (k_w σ) (k_s σ) i (x - k_s σ i) + k_w σ i) = nI (ka_B (k_f σ) (k_w σ) (k_s σ) (i + 1) x))), Nat.add_zero]
        by_cases z2 : ka_B (k_f σ) (k_w σ) (k_s σ) i x = ka_B (k_f σ) (k_w σ) (k_s σ) (i + 1) x
        · rw [if_pos z2, if_pos (q2.mpr z2)]
          rfl
        · rw [if_neg z2, if_neg (fun z => z2 (q2.mp z))]
          rfl
    · have e1 : u_nf σ (i + 1) = u_nf σ i := by simp only [u_nf, if_neg hf]
      have ey : ka_y (k_f σ) (k_w σ) (k_s σ) (i + 1) x = ka_y (k_f σ) (k_w σ) (k_s σ) i x := if_neg (fun z => hf (of_decide_eq_true z))
      rw [e1, ey]
      exact ih x hx
theorem m_cp_ow {σ : s_D} {cnt cp rm r : Nat} {τ : s_Tb} (ok : d_ok σ cnt cp) (h0 : ∀ c, c ≤ 100 → τ.1 0 c = 0) (hrm : rm ≤ 100) (hr : r = u_nf σ cnt) : t_ow (t_build σ 100 τ cnt) σ rm r rm = nI (ka_y (k_f σ) (k_w σ) (k_s σ) cnt rm) := by
  subst hr
  exact m_ow ok h0 hrm cnt (Nat.le_refl _) rm (Nat.le_refl _)
theorem nI_div {a b : Nat} (ha : a < 2147483648) (hb : b < 2147483648) (h0 : 0 < b) : nI a / nI b = nI (a / b) := by
  have h1 := Nat.div_le_self a b
  apply Int32.toInt_inj.mp
  rw [Int32.toInt_div, nI_ti ha, nI_ti hb, nI_ti (by omega)]
  have e : ((a : Int).tdiv (b : Int)) = ((a / b : Nat) : Int) := by
    rw [Int.tdiv_eq_ediv_of_nonneg (by omega)]
    exact (Int.natCast_ediv a b).symm
  have e2 : ((a / b : Nat) : Int).bmod (2 ^ 32) = ((a / b : Nat) : Int) := by
    generalize a / b = q at *
    exact Int.bmod_eq_of_le (by omega) (by omega)
  exact (congrArg (fun z => Int.bmod z (2 ^ 32)) e).trans e2

