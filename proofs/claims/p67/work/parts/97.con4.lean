/-! CONSTRUCTORS: the history -/
theorem wk_4_9 : Cond.classLink RX4 9 RX2 ∈ s_WL := s_WL_of 120 (by decide +kernel) rfl
theorem wn_2 : Cond.instantiable RX2 9 ∈ s_WL := s_WL_of 60 (by decide +kernel) rfl
theorem wz_2 : Cond.initialized RX2 ∈ s_WL := s_WL_of 26 (by decide +kernel) rfl
abbrev s_z9 : List Value := [.null, .null, .null, .null, .int 0, .int 0, .int 0, .int 0, .int 0]
theorem s_z9_ok : ∀ j, j < 9 → defaultValue (tyX2 j) = vp_V s_z9 j := fun j hj => by
  have h : j = 0 ∨ j = 1 ∨ j = 2 ∨ j = 3 ∨ j = 4 ∨ j = 5 ∨ j = 6 ∨ j = 7 ∨ j = 8 := by omega
  rcases h with rfl | rfl | rfl | rfl | rfl | rfl | rfl | rfl | rfl <;> rfl
theorem s_z9_vo {n : Nat} : ∀ v ∈ s_z9, s_vo n v := fun v hv => by
  simp only [List.mem_cons, List.not_mem_nil, or_false] at hv
  rcases hv with rfl | rfl | rfl | rfl | rfl | rfl | rfl | rfl | rfl <;> trivial
abbrev s_D0 : s_D := (fun _ _ => 0, fun _ => 0)
theorem s_disk.lo {h h1 : s_H} {d n : Nat} {σ : s_D} (q : s_disk h d σ) (z : s_lo h h1 n) (hd : d + 5 ≤ n) : s_disk h1 d σ := by
  obtain ⟨q0, q1, q2, q3, q4⟩ := q
  exact ⟨(z _ (by omega)).trans q0, (z _ (by omega)).trans q1, (z _ (by omega)).trans q2, (z _ (by omega)).trans q3, (z _ (by omega)).trans q4⟩
theorem s_lo.trans {h h1 h2 : s_H} {d n : Nat} (q : s_lo h h1 d) (z : s_lo h1 h2 n) (hd : d ≤ n) : s_lo h h2 d := fun j hj => (z j (by omega)).trans (q j hj)
theorem c_X4_init {h : s_H} {k : Nat} (ho : h k = .inr (2, [.null, .int 0])) (hcl : s_cl h (k + 1)) (hb : k + 52 ≤ s_big) : s_Mt TX4_init 51 660 [.ref k] h (k + 1) (fun o h1 n1 => o = .inl none ∧ n1 = k + 52 ∧ s_cl h1 (k + 52) ∧ s_hist h1 k id (fun _ => s_D0) 0 ∧ s_lo h h1 k) := by
  have loop : ∀ (r i : Nat) (h' : s_H) (f : Nat → Option Nat), i + r = 10 → h' k = .inr (2, [.ref (k + 1), .int 0]) → h' (k + 1) = .inl (3, 10, .inr (.inr (.inr (.inr f)))) → (∀ j, j < i → f j = some (k + 2 + 5 * j)) → (∀ j y, f j = some y → y < k + 2 + 5 * i) → (∀ j, j < i → s_disk h' (k + 2 + 5 * j) s_D0) → s_cl h' (k + 2 + 5 * i) → s_lo h h' k → s_G TX4_init (fun o h1 n1 => o = .inl none ∧ n1 = k + 52 ∧ s_cl h1 (k + 52) ∧ s_hist h1 k id (fun _ => s_D0) 0 ∧ s_lo h h1 k) 20 (s_lvs [(0, .ref k), (1, .int (nI i))]) [] h' (k + 2 + 5 * i) (5 * r) (65 * r) := by
    intro r
    induction r with
    | zero =>
      intro i h' f hi ho hk hf hfc hds hcl hlo
      obtain rfl : i = 10 := by omega
      refine g_iload_n dX4_init_20 rfl (by rfl) ?_
      refine g_bipush 10 dX4_init_21 (by rfl) ?_
      refine g_icmp_ge (tgt := 45) dX4_init_23 (by decide) (fun _ => ?_) (fun c_23 => absurd (show (10 : Int32) ≤ nI 10 by decide) c_23)
      refine g_vreturn dX4_init_45 rfl ?_
      exact ⟨rfl, rfl, hcl, ⟨ho, ⟨f, hk, hf⟩, fun i hi => hi, fun i j _ _ z => z, hds⟩, hlo⟩
    | succ r ih =>
      intro i h' f hi ho hk hf hfc hds hcl hlo
      have hlv : ∀ {n : Nat}, k < n → ∀ j v, s_lvs [(0, .ref k), (1, .int (nI i))] j = some v → s_vo n v := fun hn => s_lvs_vo (List.forall_mem_cons.mpr ⟨Or.inl hn, List.forall_mem_cons.mpr ⟨trivial, fun _ z => nomatch z⟩⟩)
      refine g_iload_n dX4_init_20 rfl (by rfl) ?_
      refine g_bipush 10 dX4_init_21 (by rfl) ?_
      refine g_icmp_ge (tgt := 45) dX4_init_23 (by decide) (fun c_23 => absurd c_23 (nI_ge (b := 10) (by omega) (by omega))) (fun _ => ?_)
      refine g_aload_n dX4_init_26 rfl (by rfl) ?_
      refine g_getf dX4_init_27 fX4_11 (by exact ho) (by omega) (by rfl) ?_
      refine g_iload_n dX4_init_30 rfl (by rfl) ?_
      refine g_new (ci := 0) (q9 := (RX2, TX2, 9)) tyX2 dX4_init_31 rfl wiX2 tyX2_ok wk_4_9 wn_2 wz_2 s_z9_ok s_z9_vo (by omega) hcl (hlv (by omega)) (List.forall_mem_cons.mpr ⟨trivial, s_vo1 (by omega)⟩) (by omega) (by show 9 ≤ _; omega) (fun h1 e1 hcl1 => ?_)
      have ho1 := s_up_off e1 (by omega) ho
      have hk1 := s_up_off e1 (by omega) hk
      have hon := s_up_at e1
      have hlo1 := hlo.up e1 (by omega)
      have hl1 : s_lo h' h1 (k + 2 + 5 * i) := s_lo.rf.up e1 (Nat.le_refl _)
      refine g_dup dX4_init_34 (by rfl) ?_
      refine g_callINg (rest := [.ref (k + 2 + 5 * i), .int (nI i), .ref (k + 1)]) (c_X2_init hon hcl1 (by omega)) dX4_init_35 mX2_init rfl (by decide) iX2_init rfl rfl (by decide) rfl rfl (Nat.le_of_ble_eq_true rfl) (by omega) (by show 56 ≤ 65 * (r + 1) - 9; omega) (fun E h' n' z => by cases z.1) (hlv (by omega)) (List.forall_mem_cons.mpr ⟨s_vo_r (by omega), List.forall_mem_cons.mpr ⟨trivial, s_vo1 (by omega)⟩⟩) (fun v h2 n' z hnn => ?_)
      obtain ⟨hv, rfl, hcl2, hdk, hlo2⟩ := z
      cases hv
      have ho2 := (hlo2 k (by omega)).trans ho1
      have hk2 := (hlo2 (k + 1) (by omega)).trans hk1
      refine g_aastD' dX4_init_38 hk2 (by omega) (by omega) hdk.1 rfl (by omega) (by omega) (fun h3 e3 => ?_)
      have ho3 := s_up_off e3 (by omega) ho2
      have hk3 := s_up_at e3
      have hl3 : s_lo h2 h3 (k + 1) := s_lo.rf.up e3 (Nat.le_refl _)
      have hcl3 : s_cl h3 (k + 2 + 5 * i + 5) := hcl2.up e3 (Nat.le_refl _) (fun j y z => by
        change (if j = i then some (k + 2 + 5 * i) else f j) = some y at z
        by_cases e : j = i
        · rw [if_pos e] at z
          cases z
          exact Or.inl (by omega)
        · rw [if_neg e] at z
          have := hfc j y z
          exact Or.inl (by omega)) (fun j a b => by omega)
      refine g_iinc (nI (i + 1)) dX4_init_39 (by rfl) (nI_inc i) ?_
      refine g_goto (tgt := 20) dX4_init_42 (by decide) ?_
      have z9 := ih (i + 1) h3 _ (by omega) ho3 hk3 (fun j hj => by
        show (if j = i then some (k + 2 + 5 * i) else f j) = _
        by_cases e : j = i
        · rw [if_pos e, e]
        · rw [if_neg e]; exact hf j (by omega)) (fun j y z => by
        change (if j = i then some (k + 2 + 5 * i) else f j) = some y at z
        by_cases e : j = i
        · rw [if_pos e] at z
          cases z
          omega
        · rw [if_neg e] at z
          have := hfc j y z
          omega) (fun j hj => by
        have hdm : ∀ {d : Nat} {σ : s_D}, k + 2 ≤ d → s_disk h2 d σ → s_disk h3 d σ := fun hd q => ⟨s_up_off e3 (by omega) q.1, s_up_off e3 (by omega) q.2.1, s_up_off e3 (by omega) q.2.2.1, s_up_off e3 (by omega) q.2.2.2.1, s_up_off e3 (by omega) q.2.2.2.2⟩
        by_cases e : j = i
        · subst e
          exact hdm (by omega) hdk
        · exact hdm (by omega) (((hds j (by omega)).lo hl1 (by omega)).lo hlo2 (by omega))) (by rw [show k + 2 + 5 * (i + 1) = k + 2 + 5 * i + 5 by omega]; exact hcl3) ((hlo1.trans hlo2 (by omega)).trans hl3 (by omega))
      rw [show k + 2 + 5 * (i + 1) = k + 2 + 5 * i + 5 by omega] at z9
      exact g_lv (g_sub z9 (fun _ _ z => z) (by omega) (by show _ ≤ 65 * (r + 1) - 9 - 56; omega)) ⟨rfl, rfl, trivial⟩
  refine s_Mt_of rfl (by decide) (by exact Nat.le_of_ble_eq_true rfl) ?_
  have hlo : s_lo h h k := s_lo.rf
  refine g_aload_n dX4_init_0 rfl (by rfl) ?_
  refine g_objInit dX4_init_1 wl_X4 wi_obj wc_obj (Nat.le_of_ble_eq_true rfl) ?_
  refine g_aload_n dX4_init_4 rfl (by rfl) ?_
  refine g_bipush 10 dX4_init_5 (by rfl) ?_
  refine g_newqD (N' := 10) dX4_init_7 wk_4_9 rfl (by omega) (by omega) hcl (s_ent1 (by omega)) (s_vo1 (by omega)) (by omega) (by omega) (fun h1 e1 hcl1 => ?_)
  have ho1 := s_up_off e1 (by omega) ho
  have hk1 := s_up_at e1
  have hlo1 := hlo.up e1 (by omega)
  refine g_putF' dX4_init_10 pX4_11 rfl (fun q z => by cases z; rfl) ho1 (by omega) (by exact Nat.le_of_ble_eq_true rfl) (by rfl) (by rfl) (fun h2 e2 => ?_)
  have ho2 : h2 k = .inr (2, [.ref (k + 1), .int 0]) := s_up_at e2
  have hk2 := s_up_off e2 (by omega) hk1
  have hcl2 : s_cl h2 (k + 2) := hcl1.up e2 (Nat.le_refl _) (List.forall_mem_cons.mpr ⟨s_vo_r (by omega), List.forall_mem_cons.mpr ⟨trivial, fun _ z => nomatch z⟩⟩) (fun j a b => by omega)
  have hlo2 := hlo1.up e2 (by omega)
  refine g_aload_n dX4_init_13 rfl (by rfl) ?_
  refine g_iconst 0 dX4_init_14 (by rfl) ?_
  refine g_putf' dX4_init_15 pX4_17 ho2 (by omega) (by exact Nat.le_of_ble_eq_true rfl) (by rfl) (by rfl) (fun h3 e3 => ?_)
  have ho3 : h3 k = .inr (2, [.ref (k + 1), .int 0]) := s_up_at e3
  have hk3 := s_up_off e3 (by omega) hk2
  have hcl3 : s_cl h3 (k + 2) := hcl2.up e3 (Nat.le_refl _) (List.forall_mem_cons.mpr ⟨s_vo_r (by omega), List.forall_mem_cons.mpr ⟨trivial, fun _ z => nomatch z⟩⟩) (fun j a b => by omega)
  have hlo3 := hlo2.up e3 (by omega)
  refine g_iconst 0 dX4_init_18 (by rfl) ?_
  refine g_istore_n dX4_init_19 rfl (by decide) ?_
  exact g_lv (loop 10 0 h3 _ rfl ho3 hk3 (fun j hj => absurd hj (Nat.not_lt_zero j)) (fun j y z => by cases z) (fun j hj => absurd hj (Nat.not_lt_zero j)) hcl3 hlo3) ⟨rfl, rfl, trivial⟩
