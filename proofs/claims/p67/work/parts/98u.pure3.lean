/-! PURE: what the law asks of the planner's numbers -/
/-! sets -/
theorem f_sm0 {g : Nat → Nat} {t : Nat → Bool} : ∀ n, (∀ j, j < n → t j = false) → ka_sm g t n = 0
  | 0, _ => rfl
  | n + 1, h => by
    unfold ka_sm
    rw [if_neg (by rw [h n (by omega)]; decide)]
    exact f_sm0 n (fun j hj => h j (by omega))
theorem f_and {p t : Nat → Bool} {cnt : Nat} : ka_sm ka_p2 p cnt &&& ka_sm ka_p2 t cnt = ka_sm ka_p2 (fun j => p j && t j) cnt := by
  apply Nat.eq_of_testBit_eq
  intro j
  rw [Nat.testBit_and]
  by_cases hj : j < cnt
  · rw [ka_M_bit cnt hj, ka_M_bit cnt hj, ka_M_bit cnt hj]
  · have e : ∀ t : Nat → Bool, (ka_sm ka_p2 t cnt).testBit j = false := fun t => Nat.testBit_lt_two_pow (Nat.lt_of_lt_of_le (ka_M_lt cnt) (Nat.pow_le_pow_right (by omega) (by omega)))
    rw [e, e, e]
    rfl
theorem f_sm_mono {g : Nat → Nat} {t t' : Nat → Bool} : ∀ n, (∀ j, j < n → t j = true → t' j = true) → ka_sm g t n ≤ ka_sm g t' n
  | 0, _ => Nat.le_refl _
  | n + 1, h => by
    have ih := f_sm_mono (g := g) n (fun j hj => h j (by omega))
    have hn := h n (by omega)
    unfold ka_sm
    by_cases e : t n = true
    · rw [if_pos e, if_pos (hn e)]
      omega
    · rw [if_neg e]
      split <;> omega
/-- one item more -/
theorem f_up {g : Nat → Nat} {t : Nat → Bool} {i n : Nat} (hi : i < n) (ht : t i = false) : ka_sm g (ka_up t i true) n = ka_sm g t n + g i := by
  rw [ka_rk_up (w := g) (s := g) n hi ka_up_at g]
  congr 1
  apply ka_sm_eq
  intro j _
  by_cases e : j = i
  · rw [e, ka_up_at, ht]
  · rw [ka_up_ne e, ka_up_ne e]
theorem f_or1 {t : Nat → Bool} {i n : Nat} (hi : i < n) : ka_sm ka_p2 t n ||| 2 ^ i = ka_sm ka_p2 (ka_up t i true) n := by
  have e1 : 2 ^ i = ka_sm ka_p2 (ka_up (fun _ => false) i true) n := by
    rw [f_up hi rfl, f_sm0 n (fun _ _ => rfl), Nat.zero_add]
    rfl
  rw [e1, k_or]
  apply ka_sm_eq
  intro j _
  unfold ka_or
  by_cases e : j = i
  · rw [e, ka_up_at, ka_up_at, Bool.or_true]
  · rw [ka_up_ne e, ka_up_ne e, Bool.or_false]
/-- how many items a set has -/
theorem f_pc {t : Nat → Bool} : ∀ n, n ≤ 14 → b_pc 14 (ka_sm ka_p2 t n) ≤ n
  | 0, _ => by
    rw [show ka_sm ka_p2 t 0 = 0 from rfl, b_pc0]
    exact Nat.le_refl _
  | n + 1, h => by
    have ih := f_pc (t := t) n (by omega)
    unfold ka_sm
    split
    · have e := b_pc_add 14 n (ka_sm ka_p2 t n) (ka_M_lt n) (by omega)
      show b_pc 14 (ka_sm ka_p2 t n + 2 ^ n) ≤ _
      omega
    · omega
/-- a set of free items that fits is not heavier than the best -/
theorem f_wle {σ : s_D} {cnt cp r : Nat} (ok : d_ok σ cnt cp) {t : Nat → Bool} (h1 : ka_sub (k_f σ) t cnt) (h2 : ka_sm (k_s σ) t cnt ≤ r) : ka_sm (k_w σ) t cnt ≤ ka_sm (k_w σ) (k_t σ cnt r) cnt := by
  have h14 := ok.2.1
  have h := (ka_max (fr := k_f σ) (w := k_w σ) (s := k_s σ) cnt r).2 t h1 h2
  rw [(k_t_ok σ cnt r).2.2] at h
  have b1 := k_psb ok (t := t) cnt (Nat.le_refl _)
  have b2 := k_psb ok (t := k_t σ cnt r) cnt (Nat.le_refl _)
  have m1 := ka_M14 (t := t) h14
  unfold ka_rk at h
  omega
/-! the room -/
theorem f_room {σ : s_D} {cnt cp : Nat} (ok : d_ok σ cnt cp) : d_room σ cnt = nI cp - nI (k_P σ cnt) := by
  rw [d_room_eq ok, k_ps ok cnt (Nat.le_refl _)]
  rfl
theorem f_Pb {σ : s_D} {cnt cp : Nat} (ok : d_ok σ cnt cp) : k_P σ cnt ≤ 840 := by
  have h14 := ok.2.1
  have := (k_psb ok (t := k_p σ) cnt (Nat.le_refl _)).1
  unfold k_P
  omega
theorem f_rneg {σ : s_D} {cnt cp : Nat} (ok : d_ok σ cnt cp) : d_room σ cnt < 0 ↔ cp < k_P σ cnt := by
  have h100 := ok.2.2.2.1
  have hb := f_Pb ok
  rw [f_room ok]
  by_cases h : cp < k_P σ cnt
  · exact ⟨fun _ => h, fun _ => nI_sblt h (by omega)⟩
  · rw [nI_sble (by omega)]
    exact ⟨fun z => absurd z (nI_pos (by omega)), fun z => absurd z h⟩
theorem f_rpos {σ : s_D} {cnt cp : Nat} (ok : d_ok σ cnt cp) (h : k_P σ cnt ≤ cp) : d_room σ cnt = nI (cp - k_P σ cnt) := by rw [f_room ok, nI_sble h]
theorem f_psz {σ : s_D} {cnt cp : Nat} (ok : d_ok σ cnt cp) : d_tot (σ.1 0) (d_set σ 1 cnt) cnt = nI (k_P σ cnt) := by
  rw [k_dset (by have := ok.2.1; omega), k_tot0 ok]
  rfl
/-! the best plan -/
theorem f_nf {σ : s_D} {cnt r : Nat} : u_cell σ cnt (u_nf σ cnt) r = r_wt (u_tp σ cnt r) := by
  unfold u_cell
  cases cnt with
  | zero => rfl
  | succ i =>
    unfold u_at
    rw [if_pos (Nat.le_refl _)]
theorem f_cell {σ : s_D} {cnt cp r : Nat} (ok : d_ok σ cnt cp) (hr : r ≤ 100) : u_cell σ cnt (u_nf σ cnt) r = nI (ka_sm (k_w σ) (k_t σ cnt r) cnt) := by
  rw [f_nf, k_cell ok (Nat.le_refl _) hr, (k_bestx ok (Nat.le_refl _) hr).1]
  rfl
theorem f_Tw {σ : s_D} {cnt r : Nat} (g : Nat → Nat) : ka_sm g (k_T σ cnt r) cnt = ka_sm g (k_p σ) cnt + ka_sm g (k_t σ cnt r) cnt := ka_sm_or cnt k_ap
theorem f_Ts {σ : s_D} {cnt r : Nat} : ka_sm (k_s σ) (k_T σ cnt r) cnt ≤ k_P σ cnt + r := by
  rw [f_Tw]
  exact Nat.add_le_add_left (k_t_ok σ cnt r).2.1 _
theorem f_pin {σ : s_D} {cnt : Nat} {t : Nat → Bool} (h30 : cnt ≤ 30) (h : ∀ j, j < cnt → k_p σ j = true → t j = true) : nI (ka_sm ka_p2 t cnt) &&& d_set σ 1 cnt = d_set σ 1 cnt := by
  rw [k_dset h30, nI_and, f_and]
  congr 1
  apply ka_sm_eq
  intro j hj
  cases e : decide (σ.1 3 j = 1) with
  | false => rw [Bool.and_false]
  | true => rw [h j hj e]; rfl
theorem f_exc {σ : s_D} {cnt : Nat} {t : Nat → Bool} (h30 : cnt ≤ 30) (h : ∀ j, j < cnt → t j = true → k_p σ j = true ∨ k_f σ j = true) : nI (ka_sm ka_p2 t cnt) &&& d_set σ 2 cnt = 0 := by
  rw [k_dset h30, nI_and, f_and, f_sm0]
  · rfl
  · intro j hj
    cases e : t j with
    | false => rfl
    | true =>
      have e2 : ¬ σ.1 3 j = 2 := by
        rcases h j hj e with z | z
        · rw [of_decide_eq_true z]; decide
        · rw [of_decide_eq_true z]; decide
      rw [decide_eq_false e2]
      rfl
theorem f_Tp {σ : s_D} {cnt r : Nat} : ∀ j, j < cnt → k_p σ j = true → k_T σ cnt r j = true := fun j _ h => by
  unfold k_T ka_or
  rw [h]
  rfl
theorem f_Tpf {σ : s_D} {cnt r : Nat} : ∀ j, j < cnt → k_T σ cnt r j = true → k_p σ j = true ∨ k_f σ j = true := fun j hj h => by
  unfold k_T ka_or at h
  rcases Bool.or_eq_true _ _ ▸ h with z | z
  · exact Or.inl z
  · exact Or.inr ((k_t_ok σ cnt r).1 j hj z)
/-- the weight of the best plan is that of the table and of the pinned ones -/
theorem f_bw {σ : s_D} {cnt cp : Nat} (ok : d_ok σ cnt cp) (h : k_P σ cnt ≤ cp) : r_wt (u_best σ cnt cp) = u_cell σ cnt (u_nf σ cnt) (cp - k_P σ cnt) + d_tot (d_wt σ) (d_set σ 1 cnt) cnt := by
  have h14 := ok.2.1
  have h100 := ok.2.2.2.1
  rw [(k_tell ok h100 h).1, f_cell ok (by omega), k_dset (by omega), k_totw ok, f_Tw, nI_add', Nat.add_comm]
  rfl
theorem f_no {σ : s_D} {cnt cp : Nat} (ok : d_ok σ cnt cp) (h : cp < k_P σ cnt) : u_best σ cnt cp = r_NP := k_none ok ok.2.2.2.1 h
/-! a greater capacity is never worse -/
theorem f_mono {σ : s_D} {cnt cp c c' : Nat} (ok : d_ok σ cnt cp) (h : c ≤ c') (h9 : c' ≤ 100) : ¬ r_wt (u_best σ cnt c') < r_wt (u_best σ cnt c) := by
  have h14 := ok.2.1
  by_cases e : k_P σ cnt ≤ c
  · rw [(k_tell ok (show c ≤ 100 by omega) e).1, (k_tell ok h9 (by omega)).1, f_Tw, f_Tw]
    have h1 := f_wle ok (t := k_t σ cnt (c - k_P σ cnt)) (r := c' - k_P σ cnt) (k_t_ok σ cnt _).1 (Nat.le_trans (k_t_ok σ cnt _).2.1 (by omega))
    have b2 := (k_psb ok (t := k_t σ cnt (c' - k_P σ cnt)) cnt (Nat.le_refl _)).2
    have b3 := (k_psb ok (t := k_p σ) cnt (Nat.le_refl _)).2
    rw [Int32.lt_iff_toInt_lt, nI_ti (by omega), nI_ti (by omega)]
    omega
  · have e1 : r_wt (u_best σ cnt c) = -1 := by rw [k_none ok (by omega) (by omega)]; rfl
    rw [e1]
    by_cases e2 : k_P σ cnt ≤ c'
    · have b2 := (k_psb ok (t := k_T σ cnt (c' - k_P σ cnt)) cnt (Nat.le_refl _)).2
      rw [(k_tell ok h9 e2).1, Int32.lt_iff_toInt_lt, nI_ti (by omega)]
      have : (-1 : Int32).toInt = -1 := by decide
      omega
    · rw [k_none ok h9 (by omega)]
      decide
/-! the number of best plans -/
theorem f_y {fr : Nat → Bool} {w s : Nat → Nat} : ∀ i c, 1 ≤ ka_y fr w s i c ∧ ka_y fr w s i c ≤ 2 ^ i
  | 0, c => ⟨Nat.le_refl _, Nat.le_refl _⟩
  | i + 1, c => by
    have h1 := f_y (fr := fr) (w := w) (s := s) i c
    have h2 := f_y (fr := fr) (w := w) (s := s) i (c - s i)
    have e : 2 ^ (i + 1) = 2 * 2 ^ i := by rw [Nat.pow_succ, Nat.mul_comm]
    rw [e]
    unfold ka_y
    by_cases hf : fr i = true
    · rw [if_pos hf]
      have hB : ka_B fr w s (i + 1) c = if fr i = true ∧ s i ≤ c ∧ ka_B fr w s i c < ka_B fr w s i (c - s i) + w i then ka_B fr w s i (c - s i) + w i else ka_B fr w s i c := rfl
      by_cases hb : fr i = true ∧ s i ≤ c ∧ ka_B fr w s i c < ka_B fr w s i (c - s i) + w i
      · rw [if_pos hb] at hB
        rw [if_pos (show s i ≤ c ∧ ka_B fr w s i (c - s i) + w i = ka_B fr w s (i + 1) c from ⟨hb.2.1, hB.symm⟩)]
        split <;> omega
      · rw [if_neg hb] at hB
        rw [if_pos hB.symm]
        split <;> omega
    · rw [if_neg hf]
      omega
theorem f_opt {σ : s_D} {cnt cp : Nat} {τ : s_Tb} (ok : d_ok σ cnt cp) (h0 : ∀ c, c ≤ 100 → τ.1 0 c = 0) (h : k_P σ cnt ≤ cp) : ∃ y, t_ow (t_build σ 100 τ cnt) σ (d_room σ cnt).toNatClampNeg (t_build σ 100 τ cnt).2.2.2.1 (d_room σ cnt).toNatClampNeg = nI y ∧ 1 ≤ y ∧ y ≤ 16384 := by
  have h14 := ok.2.1
  have h100 := ok.2.2.2.1
  refine ⟨ka_y (k_f σ) (k_w σ) (k_s σ) cnt (cp - k_P σ cnt), ?_, (f_y cnt _).1, Nat.le_trans (f_y cnt _).2 (Nat.pow_le_pow_right (n := 2) (j := 14) (by omega) (by omega))⟩
  rw [f_rpos ok h, nI_clamp (by omega)]
  exact m_cp_ow ok h0 (by omega) (u_build (lc := 100) h0 cnt).1
/-! the greedy plan -/
theorem f_oinj {σ : s_D} {cnt cp : Nat} (ok : d_ok σ cnt cp) {p q : Nat} (hp : p < (g_srt σ cnt).2) (hq : q < (g_srt σ cnt).2) (e : (g_srt σ cnt).1 p = (g_srt σ cnt).1 q) : p = q := by
  have hT := g_bf_tr ok
  rw [g_srt_ka] at hp hq e
  obtain ⟨h1, h2, -⟩ := ka_srt_ok (fr := k_f σ) hT cnt (Nat.le_refl _)
  have irr : ∀ i, i < cnt → ¬ ka_T (g_bf σ) i i := fun i hi z => z.elim (hT.2.1 i hi) (fun z => Nat.lt_irrefl _ z.2)
  rcases Nat.lt_trichotomy p q with z | z | z
  · have := h2 p q z hq
    rw [e] at this
    exact absurd this (irr _ (h1 q hq).1)
  · exact z
  · have := h2 q p z hp
    rw [e] at this
    exact absurd this (irr _ (h1 q hq).1)
theorem f_ofr {σ : s_D} {cnt cp q : Nat} (ok : d_ok σ cnt cp) (hq : q < (g_srt σ cnt).2) : k_f σ ((g_srt σ cnt).1 q) = true := by
  rw [g_srt_ka] at hq ⊢
  exact ((ka_srt_ok (fr := k_f σ) (g_bf_tr ok) cnt (Nat.le_refl _)).1 q hq).2
theorem f_osur {σ : s_D} {cnt cp j : Nat} (ok : d_ok σ cnt cp) (hj : j < cnt) (hf : k_f σ j = true) : ∃ q, q < (g_srt σ cnt).2 ∧ (g_srt σ cnt).1 q = j := by
  rw [g_srt_ka]
  exact (ka_srt_ok (fr := k_f σ) (g_bf_tr ok) cnt (Nat.le_refl _)).2.2 j hj hf
/-- earlier in the order: not less dense -/
theorem f_oden {σ : s_D} {cnt cp p q : Nat} (ok : d_ok σ cnt cp) (hpq : p ≤ q) (hq : q < (g_srt σ cnt).2) : k_w σ ((g_srt σ cnt).1 q) * k_s σ ((g_srt σ cnt).1 p) ≤ k_w σ ((g_srt σ cnt).1 p) * k_s σ ((g_srt σ cnt).1 q) := by
  by_cases e : p = q
  · rw [e]
    exact Nat.le_refl _
  · have h1 := m_o ok hq
    have h2 := m_o ok (show p < (g_srt σ cnt).2 by omega)
    have hT : ka_T (g_bf σ) ((g_srt σ cnt).1 p) ((g_srt σ cnt).1 q) := by
      rw [g_srt_ka] at hq ⊢
      exact (ka_srt_ok (fr := k_f σ) (g_bf_tr ok) cnt (Nat.le_refl _)).2.1 p q (by omega) hq
    unfold ka_T at hT
    rw [g_bf_ka ok h2 h1, g_bf_ka ok h1 h2] at hT
    unfold ka_bf at hT
    omega
theorem f_tf {σ : s_D} {cnt cp : Nat} (ok : d_ok σ cnt cp) (h : k_P σ cnt ≤ cp) : ∀ q, q ≤ (g_srt σ cnt).2 → ∃ (G : Nat → Bool) (R : Nat), g_tf σ (g_srt σ cnt).1 (d_set σ 1 cnt) (d_room σ cnt) q = (nI (ka_sm ka_p2 G cnt), nI R) ∧ ka_sm (k_s σ) G cnt + R = cp ∧ (∀ j, j < cnt → k_p σ j = true → G j = true) ∧ (∀ j, j < cnt → G j = true → k_p σ j = true ∨ k_f σ j = true) ∧ ∀ j, j < cnt → G j = true → k_f σ j = true → ∃ p, p < q ∧ (g_srt σ cnt).1 p = j
  | 0, _ => by
    have h14 := ok.2.1
    refine ⟨k_p σ, cp - k_P σ cnt, ?_, ?_, fun _ _ z => z, fun _ _ z => Or.inl z, fun j _ z z2 => ?_⟩
    · show (d_set σ 1 cnt, d_room σ cnt) = _
      rw [k_dset (by omega), f_rpos ok h]
      rfl
    · show k_P σ cnt + _ = cp
      omega
    · have e1 := of_decide_eq_true z
      have e2 := of_decide_eq_true z2
      rw [e1] at e2
      exact absurd e2 (by decide)
  | q + 1, hq => by
    have h14 := ok.2.1
    have h100 := ok.2.2.2.1
    obtain ⟨G, R, e1, e2, e3, e4, e5⟩ := f_tf ok h q (by omega)
    have ho := m_o ok (show q < (g_srt σ cnt).2 by omega)
    have hf := f_ofr ok (show q < (g_srt σ cnt).2 by omega)
    obtain ⟨s1, s2, s3, -, -⟩ := k_it ok ho
    unfold g_tf
    rw [e1]
    dsimp only
    by_cases c : nI R < σ.1 0 ((g_srt σ cnt).1 q)
    · rw [if_pos c]
      exact ⟨G, R, rfl, e2, e3, e4, fun j hj z z2 => by obtain ⟨p, p1, p2⟩ := e5 j hj z z2; exact ⟨p, by omega, p2⟩⟩
    · rw [if_neg c]
      have hG : G ((g_srt σ cnt).1 q) = false := by
        cases z : G ((g_srt σ cnt).1 q) with
        | false => rfl
        | true =>
          obtain ⟨p, p1, p2⟩ := e5 _ ho z hf
          have := f_oinj ok (show p < (g_srt σ cnt).2 by omega) (show q < (g_srt σ cnt).2 by omega) p2
          omega
      have hR : k_s σ ((g_srt σ cnt).1 q) ≤ R := by
        rw [s1, Int32.lt_iff_toInt_lt, nI_ti (by omega), nI_ti (by omega)] at c
        omega
      refine ⟨ka_up G ((g_srt σ cnt).1 q) true, R - k_s σ ((g_srt σ cnt).1 q), ?_, ?_, fun j hj z => ?_, fun j hj z => ?_, fun j hj z z2 => ?_⟩
      · rw [b_sh _ (by omega), nI_or, f_or1 ho, s1, nI_sble hR]
      · rw [f_up ho hG]
        omega
      · by_cases e : j = (g_srt σ cnt).1 q
        · rw [e, ka_up_at]
        · rw [ka_up_ne e]
          exact e3 j hj z
      · by_cases e : j = (g_srt σ cnt).1 q
        · rw [e]
          exact Or.inr hf
        · rw [ka_up_ne e] at z
          exact e4 j hj z
      · by_cases e : j = (g_srt σ cnt).1 q
        · exact ⟨q, by omega, e.symm⟩
        · rw [ka_up_ne e] at z
          obtain ⟨p, p1, p2⟩ := e5 j hj z z2
          exact ⟨p, by omega, p2⟩
theorem f_gp {σ : s_D} {cnt cp : Nat} (ok : d_ok σ cnt cp) (h : k_P σ cnt ≤ cp) : ∃ G : Nat → Bool, v_gp σ cnt = nI (ka_sm ka_p2 G cnt) ∧ (∀ j, j < cnt → k_p σ j = true → G j = true) ∧ (∀ j, j < cnt → G j = true → k_p σ j = true ∨ k_f σ j = true) ∧ ka_sm (k_s σ) G cnt ≤ cp := by
  obtain ⟨G, R, e1, e2, e3, e4, -⟩ := f_tf ok h _ (Nat.le_refl _)
  exact ⟨G, by unfold v_gp; rw [e1], e3, e4, by omega⟩
/-- a plan is not heavier than the best -/
theorem f_ple {σ : s_D} {cnt cp : Nat} (ok : d_ok σ cnt cp) {G : Nat → Bool} (e3 : ∀ j, j < cnt → k_p σ j = true → G j = true) (e4 : ∀ j, j < cnt → G j = true → k_p σ j = true ∨ k_f σ j = true) (e5 : ka_sm (k_s σ) G cnt ≤ cp) : ka_sm (k_w σ) G cnt ≤ ka_sm (k_w σ) (k_T σ cnt (cp - k_P σ cnt)) cnt := by
  have eG : ∀ g : Nat → Nat, ka_sm g G cnt = ka_sm g (k_p σ) cnt + ka_sm g (fun j => G j && k_f σ j) cnt := fun g => by
    rw [← ka_sm_or cnt (p := k_p σ) (t := fun j => G j && k_f σ j) (fun j _ z => by
      have z2 : k_f σ j = true := (Bool.and_eq_true _ _ ▸ z).2
      have z3 := of_decide_eq_true z2
      unfold k_p
      rw [z3]
      decide)]
    apply ka_sm_eq
    intro j hj
    unfold ka_or
    cases z : G j with
    | false =>
      cases z2 : k_p σ j with
      | false =>
        show false = (false || (G j && k_f σ j))
        rw [z]
        rfl
      | true => rw [e3 j hj z2] at z; cases z
    | true =>
      rcases e4 j hj z with z2 | z2
      · rw [z2]; rfl
      · show true = (k_p σ j || (G j && k_f σ j))
        rw [z, z2]
        simp
  have h1 := eG (k_s σ)
  have h2 : ka_sm (k_s σ) (fun j => G j && k_f σ j) cnt ≤ cp - k_P σ cnt := by
    unfold k_P
    omega
  have h3 := f_wle ok (t := fun j => G j && k_f σ j) (fun j _ z => (Bool.and_eq_true _ _ ▸ z).2) h2
  rw [eG, f_Tw]
  omega
/-! the bound -/
theorem f_ex {w s : Nat → Nat} {t A : Nat → Bool} {wi si : Nat} : ∀ n, (∀ j, j < n → t j = true → A j = false → w j * si ≤ wi * s j) → (∀ j, j < n → t j = false → A j = true → wi * s j ≤ w j * si) → ka_sm w t n * si + wi * ka_sm s A n ≤ ka_sm w A n * si + wi * ka_sm s t n
  | 0, _, _ => Nat.le_refl _
  | n + 1, h1, h2 => by
    have ih := f_ex n (fun j hj => h1 j (by omega)) (fun j hj => h2 j (by omega))
    have a1 := h1 n (by omega)
    have a2 := h2 n (by omega)
    unfold ka_sm
    cases e1 : t n <;> cases e2 : A n
    · simp only [Bool.false_eq_true, if_false]
      exact ih
    · have := a2 e1 e2
      simp only [Bool.false_eq_true, if_false, if_true]
      rw [Nat.mul_add, Nat.add_mul]
      omega
    · have := a1 e1 e2
      simp only [Bool.false_eq_true, if_false, if_true]
      rw [Nat.mul_add, Nat.add_mul]
      omega
    · simp only [if_true]
      rw [Nat.mul_add, Nat.mul_add, Nat.add_mul, Nat.add_mul]
      omega
theorem f_bd {σ : s_D} {cnt cp r0 : Nat} (ok : d_ok σ cnt cp) (hr0 : r0 ≤ 100) : ∀ k q, q + k = (g_srt σ cnt).2 → ∀ (A : Nat → Bool) (r W : Nat), (∀ j, j < cnt → (A j = true ↔ ∃ p, p < q ∧ (g_srt σ cnt).1 p = j)) → ka_sm (k_s σ) A cnt + r = r0 → W ≤ 200000 → ∃ B, g_bd σ (g_srt σ cnt).1 k q (nI (W + ka_sm (k_w σ) A cnt)) (nI r) = nI B ∧ B ≤ 2000000 ∧ ∀ t : Nat → Bool, ka_sub (k_f σ) t cnt → ka_sm (k_s σ) t cnt ≤ r0 → W + ka_sm (k_w σ) t cnt ≤ B
  | 0, q, hq, A, r, W, hA, hs, hW => by
    have h14 := ok.2.1
    have b1 := (k_psb ok (t := A) cnt (Nat.le_refl _)).2
    refine ⟨_, rfl, by omega, fun t h1 h2 => ?_⟩
    have := f_sm_mono (g := k_w σ) (t := t) (t' := A) cnt (fun j hj z => (hA j hj).mpr (by
      obtain ⟨p, p1, p2⟩ := f_osur ok hj (h1 j hj z)
      exact ⟨p, by omega, p2⟩))
    omega
  | k + 1, q, hq, A, r, W, hA, hs, hW => by
    have h14 := ok.2.1
    have hql : q < (g_srt σ cnt).2 := by omega
    have ho := m_o ok hql
    obtain ⟨s1, s2, s3, w1, w2⟩ := k_it ok ho
    have b1 := (k_psb ok (t := A) cnt (Nat.le_refl _)).2
    unfold g_bd
    have hpos : 0 < σ.1 0 ((g_srt σ cnt).1 q) := by
      rw [s1, Int32.lt_iff_toInt_lt, nI_ti (by omega)]
      show (0 : Int) < _
      omega
    by_cases c : r < k_s σ ((g_srt σ cnt).1 q)
    · have c1 : nI r < σ.1 0 ((g_srt σ cnt).1 q) := by
        rw [s1]
        exact nI_lt c (by omega)
      rw [if_pos ⟨c1, hpos⟩, w1, s1, nI_mul, nI_div (by
        have : k_w σ ((g_srt σ cnt).1 q) * r ≤ 9990 * 100 := Nat.mul_le_mul w2 (by omega)
        omega) (by omega) (by omega), nI_add']
      have hd : k_w σ ((g_srt σ cnt).1 q) * r / k_s σ ((g_srt σ cnt).1 q) ≤ 9990 * 100 := Nat.le_trans (Nat.div_le_self _ _) (Nat.mul_le_mul w2 (by omega))
      refine ⟨_, rfl, by omega, fun t h1 h2 => ?_⟩
      have hx := f_ex (w := k_w σ) (s := k_s σ) (t := t) (A := A) (wi := k_w σ ((g_srt σ cnt).1 q)) (si := k_s σ ((g_srt σ cnt).1 q)) cnt (fun j hj z z2 => ?_) (fun j hj z z2 => ?_)
      · have h3 : k_w σ ((g_srt σ cnt).1 q) * ka_sm (k_s σ) t cnt ≤ k_w σ ((g_srt σ cnt).1 q) * ka_sm (k_s σ) A cnt + k_w σ ((g_srt σ cnt).1 q) * r := by
          rw [← Nat.mul_add]
          exact Nat.mul_le_mul_left _ (by omega)
        have h4 : ka_sm (k_w σ) t cnt * k_s σ ((g_srt σ cnt).1 q) ≤ ka_sm (k_w σ) A cnt * k_s σ ((g_srt σ cnt).1 q) + k_w σ ((g_srt σ cnt).1 q) * r := by omega
        have h5 : ka_sm (k_w σ) t cnt - ka_sm (k_w σ) A cnt ≤ k_w σ ((g_srt σ cnt).1 q) * r / k_s σ ((g_srt σ cnt).1 q) := by
          rw [Nat.le_div_iff_mul_le (by omega), Nat.sub_mul]
          omega
        omega
      · obtain ⟨p, p1, p2⟩ := f_osur ok hj (h1 j hj z)
        have hpq : q ≤ p := Nat.le_of_not_lt fun y => by
          have := (hA j hj).mpr ⟨p, y, p2⟩
          rw [this] at z2
          cases z2
        have := f_oden ok hpq p1
        rw [p2] at this
        exact this
      · obtain ⟨p, p1, p2⟩ := (hA j hj).mp z2
        have := f_oden ok (show p ≤ q by omega) hql
        rw [p2] at this
        exact this
    · have c1 : ¬ nI r < σ.1 0 ((g_srt σ cnt).1 q) := by
        rw [s1, Int32.lt_iff_toInt_lt, nI_ti (by omega), nI_ti (by omega)]
        omega
      have hAq : A ((g_srt σ cnt).1 q) = false := by
        cases z : A ((g_srt σ cnt).1 q) with
        | false => rfl
        | true =>
          obtain ⟨p, p1, p2⟩ := (hA _ ho).mp z
          have := f_oinj ok (show p < (g_srt σ cnt).2 by omega) hql p2
          omega
      rw [if_neg (fun z => c1 z.1), w1, s1, nI_add', nI_sble (by omega), Nat.add_assoc, ← f_up (g := k_w σ) ho hAq]
      refine f_bd ok hr0 k (q + 1) (by omega) (ka_up A ((g_srt σ cnt).1 q) true) (r - k_s σ ((g_srt σ cnt).1 q)) W (fun j hj => ?_) (by rw [f_up ho hAq]; omega) hW
      by_cases e : j = (g_srt σ cnt).1 q
      · rw [e, ka_up_at]
        exact ⟨fun _ => ⟨q, by omega, rfl⟩, fun _ => rfl⟩
      · rw [ka_up_ne e, hA j hj]
        constructor
        · rintro ⟨p, p1, p2⟩
          exact ⟨p, by omega, p2⟩
        · rintro ⟨p, p1, p2⟩
          by_cases e2 : p = q
          · rw [e2] at p2
            exact absurd p2.symm e
          · exact ⟨p, by omega, p2⟩
theorem f_vb {σ : s_D} {cnt cp : Nat} (ok : d_ok σ cnt cp) (h : k_P σ cnt ≤ cp) : ∃ B, v_bd σ cnt = nI B ∧ B ≤ 2000000 ∧ ka_sm (k_w σ) (k_T σ cnt (cp - k_P σ cnt)) cnt ≤ B := by
  have h14 := ok.2.1
  have h100 := ok.2.2.2.1
  have b1 := (k_psb ok (t := k_p σ) cnt (Nat.le_refl _)).2
  obtain ⟨B, e1, e2, e3⟩ := f_bd (r0 := cp - k_P σ cnt) ok (by omega) (g_srt σ cnt).2 0 (Nat.zero_add _) (fun _ => false) (cp - k_P σ cnt) (ka_sm (k_w σ) (k_p σ) cnt) (fun j _ => ⟨fun z => (Bool.false_ne_true z).elim, fun z => by obtain ⟨p, p1, -⟩ := z; omega⟩) (by rw [f_sm0 cnt (fun _ _ => rfl), Nat.zero_add]) (by omega)
  refine ⟨B, ?_, e2, ?_⟩
  · unfold v_bd
    rw [k_dset (by omega), k_totw ok, f_rpos ok h]
    rw [f_sm0 cnt (fun _ _ => rfl), Nat.add_zero] at e1
    exact e1
  · rw [f_Tw]
    exact e3 _ (k_t_ok σ cnt _).1 (k_t_ok σ cnt _).2.1
/-! nothing is violated -/
theorem f_vio {σ : s_D} {cnt cp : Nat} (ok : d_ok σ cnt cp) : (if u_best σ cnt cp = r_NP then (0 : Int32) else (((v_b (v_df σ cnt cp (r_st (u_best σ cnt cp)))) + (v_b (v_fb σ cnt cp (r_st (u_best σ cnt cp))))) + (v_b (v_ob σ cnt (r_st (u_best σ cnt cp)))))) = 0 := by
  have h14 := ok.2.1
  have h100 := ok.2.2.2.1
  by_cases h : k_P σ cnt ≤ cp
  · obtain ⟨t1, t2, t3, -, t5⟩ := k_tell ok h100 h
    rw [if_neg t5, t3]
    have bT := (k_psb ok (t := k_T σ cnt (cp - k_P σ cnt)) cnt (Nat.le_refl _)).2
    have n1 : ¬ v_df σ cnt cp (nI (ka_sm ka_p2 (k_T σ cnt (cp - k_P σ cnt)) cnt)) := by
      unfold v_df
      rw [f_rpos ok h, nI_clamp (by omega), k_totw ok, ← t1, f_bw ok h]
      exact fun z => z rfl
    have n2 : ¬ v_fb σ cnt cp (nI (ka_sm ka_p2 (k_T σ cnt (cp - k_P σ cnt)) cnt)) := by
      unfold v_fb
      have hs := f_Ts (σ := σ) (cnt := cnt) (r := cp - k_P σ cnt)
      rw [f_exc (by omega) f_Tpf, f_pin (by omega) f_Tp, k_tot0 ok, Int32.lt_iff_toInt_lt, nI_ti (by omega), nI_ti (by omega)]
      rintro (z | z | z)
      · omega
      · exact z rfl
      · exact z rfl
    have n3 : ¬ v_ob σ cnt (nI (ka_sm ka_p2 (k_T σ cnt (cp - k_P σ cnt)) cnt)) := by
      unfold v_ob
      obtain ⟨G, g1, g2, g3, g4⟩ := f_gp ok h
      obtain ⟨B, b1, b2, b3⟩ := f_vb ok h
      have hp := f_ple ok g2 g3 g4
      rw [g1, b1, k_totw ok, k_totw ok, Int32.lt_iff_toInt_lt, Int32.lt_iff_toInt_lt, nI_ti (by omega), nI_ti (by omega), nI_ti (by omega)]
      omega
    unfold v_b
    rw [if_neg n1, if_neg n2, if_neg n3]
    rfl
  · rw [if_pos (f_no ok (by omega))]
/-! backups in pieces -/
theorem f_bn {σ : s_D} {cnt cp a : Nat} : ∀ b, v_bn σ cnt cp (a + b) = v_bn (v_bn σ cnt cp a) cnt cp b
  | 0 => rfl
  | b + 1 => by
    show d_bk (v_bn σ cnt cp (a + b)) (v_tk (v_bn σ cnt cp (a + b)) cnt cp) cnt = _
    rw [f_bn b]
    rfl
theorem f_tk {σ : s_D} {cnt cp : Nat} (ok : d_ok σ cnt cp) : ∃ U : Nat → Bool, v_tk σ cnt cp = nI (ka_sm ka_p2 U cnt) := by
  have h100 := ok.2.2.2.1
  unfold v_tk
  by_cases h : k_P σ cnt ≤ cp
  · exact ⟨_, (k_tell ok h100 h).2.2.2.1⟩
  · refine ⟨fun _ => false, ?_⟩
    rw [f_no ok (by omega), f_sm0 cnt (fun _ _ => rfl)]
    rfl
theorem f_un {σ : s_D} {cnt cp : Nat} (ok : d_ok σ cnt cp) : ∀ k, ∃ U : Nat → Bool, v_un σ cnt cp k = nI (ka_sm ka_p2 U cnt)
  | 0 => ⟨fun _ => false, by rw [f_sm0 cnt (fun _ _ => rfl)]; rfl⟩
  | k + 1 => by
    obtain ⟨U, h1⟩ := f_un ok k
    obtain ⟨V, h2⟩ := f_tk (v_bn_ok ok k)
    refine ⟨ka_or U V, ?_⟩
    unfold v_un
    rw [h1, h2, nI_or, k_or]
theorem f_tkn {σ : s_D} {cnt cp : Nat} (ok : d_ok σ cnt cp) (k : Nat) : ∃ y, s_bc (v_un σ cnt cp k) = nI y ∧ y ≤ cnt := by
  have h14 := ok.2.1
  obtain ⟨U, h⟩ := f_un ok k
  rw [h, b_bc (ka_M14 h14)]
  exact ⟨_, rfl, f_pc cnt h14⟩
