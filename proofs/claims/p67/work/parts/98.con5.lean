/-! CONSTRUCTORS: the planner -/
/-- between a number and another nothing has changed -/
def s_md (h h1 : s_H) (b N : Nat) : Prop := ∀ j, b < j → j < N → h1 j = h j
theorem s_md.rf {h : s_H} {b N : Nat} : s_md h h b N := fun _ _ _ => rfl
theorem s_md.up {h h1 h2 : s_H} {b N i : Nat} {o : s_O} (q : s_md h h1 b N) (e : h2 = s_up h1 i o) (hi : i = b ∨ N ≤ i) : s_md h h2 b N := fun j a c => by
  rw [e, s_up_ne h1 o (by omega)]
  exact q j a c
theorem s_md.lo {h h1 h2 : s_H} {b N n : Nat} (q : s_md h h1 b N) (z : s_lo h1 h2 n) (hn : N ≤ n) : s_md h h2 b N := fun j a c => (z j (by omega)).trans (q j a c)
theorem s_disk.md {h h1 : s_H} {b N d : Nat} {σ : s_D} (q : s_disk h d σ) (z : s_md h h1 b N) (hd : b < d ∧ d + 5 ≤ N) : s_disk h1 d σ := by
  obtain ⟨q0, q1, q2, q3, q4⟩ := q
  exact ⟨(z _ (by omega) (by omega)).trans q0, (z _ (by omega) (by omega)).trans q1, (z _ (by omega) (by omega)).trans q2, (z _ (by omega) (by omega)).trans q3, (z _ (by omega) (by omega)).trans q4⟩
theorem s_hist.md {h h1 : s_H} {b N k len : Nat} {pm : Nat → Nat} {D : Nat → s_D} (q : s_hist h k pm D len) (z : s_md h h1 b N) (hd : b < k ∧ k + 52 ≤ N) : s_hist h1 k pm D len := by
  obtain ⟨q0, ⟨f, q1, q2⟩, q3, q4, q5⟩ := q
  exact ⟨(z _ (by omega) (by omega)).trans q0, ⟨f, (z _ (by omega) (by omega)).trans q1, q2⟩, q3, q4, fun i hi => (q5 i hi).md z (by have := q3 i hi; omega)⟩
theorem s_tab.md {h h1 : s_H} {b N t : Nat} {τ : s_Tb} (q : s_tab h t τ) (r : s_md h h1 b N) (hd : b < t ∧ t + 19 ≤ N) : s_tab h1 t τ := by
  obtain ⟨q0, q1, q2, q3, q4⟩ := q
  exact ⟨(r _ (by omega) (by omega)).trans q0, (r _ (by omega) (by omega)).trans q1, fun i hi => (r _ (by omega) (by omega)).trans (q2 i hi), (r _ (by omega) (by omega)).trans q3, (r _ (by omega) (by omega)).trans q4⟩
theorem g_new' {T : s_T} {Φ : s_P} {pc : Nat} {lv : s_V} {st : List Value} {h : s_H} {n kc ks : Nat} {idx ci : Nat} {C : String} {T9 : u_T} {N : Nat} {fs : List Value} (ty : Nat → FieldType) (hd : decode T.2.1 pc = .ok (.new idx, 3)) (hci : vwCl[ci]? = some (C, T9, N)) (hws : ∀ w ∈ u_ws C T9 N, w ∈ s_WL) (hty : ∀ k, k < N → parseFieldDescriptor (T9 k).2.2.1 = some (ty k)) (hcl9 : Cond.classLink T.1.cls idx C ∈ s_WL) (hinst : Cond.instantiable C N ∈ s_WL) (hini : Cond.initialized C ∈ s_WL) (hfs : ∀ j, j < N → defaultValue (ty j) = vp_V fs j) (hvo : ∀ v ∈ fs, s_vo n v) (hn9 : n + 1 ≤ s_big) (hcl : s_cl h n) (hlv : ∀ i v, lv i = some v → s_vo n v) (hst : ∀ v ∈ st, s_vo n v) (hc : 1 ≤ kc) (hs : N ≤ ks)
    (k : ∀ h1, h1 = s_up h n (.inr (ci, fs)) → s_cl h1 (n + 1) → s_G T Φ (pc + 3) lv (.ref n :: st) h1 (n + 1) (kc - 1) (ks - N)) : s_G T Φ pc lv st h n kc ks := g_new (q9 := (C, T9, N)) ty hd hci hws hty hcl9 hinst hini hfs hvo hn9 hcl hlv hst hc hs k
theorem s_defs {ty : Nat → FieldType} {fs : List Value} {N : Nat} (h : ∀ j, j < N → defaultValue (ty j) = vp_V fs j) : ∀ j, j < N → defaultValue (ty j) = vp_V fs j := h

theorem zf_X2 : ∀ j, j < 9 → defaultValue (tyX2 j) = vp_V s_z9 j := fun j hj => by
  have h : j = 0 ∨ j = 1 ∨ j = 2 ∨ j = 3 ∨ j = 4 ∨ j = 5 ∨ j = 6 ∨ j = 7 ∨ j = 8 := by omega
  rcases h with rfl | rfl | rfl | rfl | rfl | rfl | rfl | rfl | rfl <;> rfl
theorem zv_X2 {n : Nat} : ∀ v ∈ (s_z9 : List Value), s_vo n v := fun v hv => by
  simp only [List.mem_cons, List.not_mem_nil, or_false] at hv
  rcases hv with rfl | rfl | rfl | rfl | rfl | rfl | rfl | rfl | rfl <;> trivial
theorem wn_4 : Cond.instantiable RX4 2 ∈ s_WL := s_WL_of 115 (by decide +kernel) rfl
theorem wz_4 : Cond.initialized RX4 ∈ s_WL := s_WL_of 27 (by decide +kernel) rfl
theorem zf_X4 : ∀ j, j < 2 → defaultValue (tyX4 j) = vp_V [.null, .int 0] j := fun j hj => by
  have h : j = 0 ∨ j = 1 := by omega
  rcases h with rfl | rfl <;> rfl
theorem zv_X4 {n : Nat} : ∀ v ∈ ([.null, .int 0] : List Value), s_vo n v := fun v hv => by
  simp only [List.mem_cons, List.not_mem_nil, or_false] at hv
  rcases hv with rfl | rfl <;> trivial
theorem wn_7 : Cond.instantiable RX7 6 ∈ s_WL := s_WL_of 132 (by decide +kernel) rfl
theorem wz_7 : Cond.initialized RX7 ∈ s_WL := s_WL_of 28 (by decide +kernel) rfl
theorem zf_X7 : ∀ j, j < 6 → defaultValue (tyX7 j) = vp_V [.null, .null, .null, .int 0, .int 0, .long 0] j := fun j hj => by
  have h : j = 0 ∨ j = 1 ∨ j = 2 ∨ j = 3 ∨ j = 4 ∨ j = 5 := by omega
  rcases h with rfl | rfl | rfl | rfl | rfl | rfl <;> rfl
theorem zv_X7 {n : Nat} : ∀ v ∈ ([.null, .null, .null, .int 0, .int 0, .long 0] : List Value), s_vo n v := fun v hv => by
  simp only [List.mem_cons, List.not_mem_nil, or_false] at hv
  rcases hv with rfl | rfl | rfl | rfl | rfl | rfl <;> trivial
theorem wn_3 : Cond.instantiable RX3 2 ∈ s_WL := s_WL_of 161 (by decide +kernel) rfl
theorem wz_3 : Cond.initialized RX3 ∈ s_WL := s_WL_of 29 (by decide +kernel) rfl
theorem zf_X3 : ∀ j, j < 2 → defaultValue (tyX3 j) = vp_V [.null, .int 0] j := fun j hj => by
  have h : j = 0 ∨ j = 1 := by omega
  rcases h with rfl | rfl <;> rfl
theorem zv_X3 {n : Nat} : ∀ v ∈ ([.null, .int 0] : List Value), s_vo n v := fun v hv => by
  simp only [List.mem_cons, List.not_mem_nil, or_false] at hv
  rcases hv with rfl | rfl <;> trivial
theorem wn_6 : Cond.instantiable RX6 8 ∈ s_WL := s_WL_of 174 (by decide +kernel) rfl
theorem wz_6 : Cond.initialized RX6 ∈ s_WL := s_WL_of 30 (by decide +kernel) rfl
theorem zf_X6 : ∀ j, j < 8 → defaultValue (tyX6 j) = vp_V [.null, .int 0, .int 0, .int 0, .int 0, .int 0, .int 0, .int 0] j := fun j hj => by
  have h : j = 0 ∨ j = 1 ∨ j = 2 ∨ j = 3 ∨ j = 4 ∨ j = 5 ∨ j = 6 ∨ j = 7 := by omega
  rcases h with rfl | rfl | rfl | rfl | rfl | rfl | rfl | rfl <;> rfl
theorem zv_X6 {n : Nat} : ∀ v ∈ ([.null, .int 0, .int 0, .int 0, .int 0, .int 0, .int 0, .int 0] : List Value), s_vo n v := fun v hv => by
  simp only [List.mem_cons, List.not_mem_nil, or_false] at hv
  rcases hv with rfl | rfl | rfl | rfl | rfl | rfl | rfl | rfl <;> trivial
theorem wn_5 : Cond.instantiable RX5 2 ∈ s_WL := s_WL_of 207 (by decide +kernel) rfl
theorem wz_5 : Cond.initialized RX5 ∈ s_WL := s_WL_of 31 (by decide +kernel) rfl
theorem zf_X5 : ∀ j, j < 2 → defaultValue (tyX5 j) = vp_V [.null, .int 0] j := fun j hj => by
  have h : j = 0 ∨ j = 1 := by omega
  rcases h with rfl | rfl <;> rfl
theorem zv_X5 {n : Nat} : ∀ v ∈ ([.null, .int 0] : List Value), s_vo n v := fun v hv => by
  simp only [List.mem_cons, List.not_mem_nil, or_false] at hv
  rcases hv with rfl | rfl <;> trivial
theorem wk_8_9 : Cond.classLink RX8 9 RX2 ∈ s_WL := s_WL_of 59 (by decide +kernel) rfl
theorem wk_8_26 : Cond.classLink RX8 26 RX4 ∈ s_WL := s_WL_of 114 (by decide +kernel) rfl
theorem wk_8_33 : Cond.classLink RX8 33 RX7 ∈ s_WL := s_WL_of 131 (by decide +kernel) rfl
theorem wk_8_40 : Cond.classLink RX8 40 RX3 ∈ s_WL := s_WL_of 160 (by decide +kernel) rfl
theorem wk_8_47 : Cond.classLink RX8 47 RX6 ∈ s_WL := s_WL_of 173 (by decide +kernel) rfl
theorem wk_8_54 : Cond.classLink RX8 54 RX5 ∈ s_WL := s_WL_of 206 (by decide +kernel) rfl
theorem c_X8_init {h : s_H} {b : Nat} (ho : h b = .inr (6, [.null, .null, .null, .int 0, .null, .null, .null, .null, .null])) (hcl : s_cl h (b + 1)) (hb : b + 93 ≤ s_big) : s_Mt TX8_init 92 4234 [.ref b] h (b + 1) (fun o h1 n1 => o = .inl none ∧ n1 = b + 93 ∧ s_cl h1 (b + 93) ∧ s_pl h1 b pl_ini ∧ s_lo h h1 b) := by
  refine s_Mt_of rfl (by decide) (by exact Nat.le_of_ble_eq_true rfl) ?_
  have hlo : s_lo h h b := s_lo.rf
  refine g_aload_n dX8_init_0 rfl (by rfl) ?_
  refine g_objInit dX8_init_1 wl_X8 wi_obj wc_obj (Nat.le_of_ble_eq_true rfl) ?_
  refine g_aload_n dX8_init_4 rfl (by rfl) ?_
  refine g_new' (ci := 0) (C := RX2) (T9 := TX2) (N := 9) tyX2 dX8_init_5 rfl wiX2 tyX2_ok wk_8_9 wn_2 wz_2 zf_X2 zv_X2 (by omega) hcl (s_ent1 (by omega)) (s_vo1 (by omega)) (by omega) (by omega) (fun h1 e1 hcl => ?_)
  have ho := s_up_off e1 (by omega) ho
  have hon := s_up_at e1
  have hlo := hlo.up e1 (by omega)
  refine g_dup dX8_init_8 (by rfl) ?_
  refine g_callINg (rest := [.ref (b + 1), .ref b]) (c_X2_init hon hcl (by omega)) dX8_init_9 mX2_init rfl (by decide) iX2_init rfl rfl (by decide) rfl rfl (Nat.le_of_ble_eq_true rfl) (by omega) (by omega) (fun E h' n' z => by cases z.1) (s_ent1 (by omega)) (List.forall_mem_cons.mpr ⟨s_vo_r (by omega), s_vo1 (by omega)⟩) (fun v h2 n' z hnn => ?_)
  obtain ⟨hv, rfl, hcl, hk0, hlo2⟩ := z
  cases hv
  have ho := (hlo2 b (by omega)).trans ho
  have hlo := hlo.trans hlo2 (by omega)
  have md0 : s_md h2 h2 b (b + 6) := s_md.rf
  refine g_putF' dX8_init_12 pX8_12 rfl (fun q z => by cases z; rfl) ho (by omega) (by exact Nat.le_of_ble_eq_true rfl) (by rfl) (by rfl) (fun h3 e3 => ?_)
  have ho : h3 b = .inr (6, [.ref (b + 1), .null, .null, .int 0, .null, .null, .null, .null, .null]) := s_up_at e3
  have md0 := md0.up e3 (by omega)
  have hcl : s_cl h3 (b + 6) := hcl.up e3 (Nat.le_refl _) (List.forall_mem_cons.mpr ⟨s_vo_r (by omega), (List.forall_mem_cons.mpr ⟨trivial, (List.forall_mem_cons.mpr ⟨trivial, (List.forall_mem_cons.mpr ⟨trivial, (List.forall_mem_cons.mpr ⟨trivial, (List.forall_mem_cons.mpr ⟨trivial, (List.forall_mem_cons.mpr ⟨trivial, (List.forall_mem_cons.mpr ⟨trivial, (List.forall_mem_cons.mpr ⟨trivial, (fun _ z => nomatch z)⟩)⟩)⟩)⟩)⟩)⟩)⟩)⟩)⟩) (fun j a c => by omega)
  have hlo := hlo.up e3 (by omega)
  refine g_aload_n dX8_init_15 rfl (by rfl) ?_
  refine g_new' (ci := 0) (C := RX2) (T9 := TX2) (N := 9) tyX2 dX8_init_16 rfl wiX2 tyX2_ok wk_8_9 wn_2 wz_2 zf_X2 zv_X2 (by omega) hcl (s_ent1 (by omega)) (s_vo1 (by omega)) (by omega) (by omega) (fun h4 e4 hcl => ?_)
  have ho := s_up_off e4 (by omega) ho
  have md0 := md0.up e4 (by omega)
  have hon := s_up_at e4
  have hlo := hlo.up e4 (by omega)
  refine g_dup dX8_init_19 (by rfl) ?_
  refine g_callINg (rest := [.ref (b + 6), .ref b]) (c_X2_init hon hcl (by omega)) dX8_init_20 mX2_init rfl (by decide) iX2_init rfl rfl (by decide) rfl rfl (Nat.le_of_ble_eq_true rfl) (by omega) (by omega) (fun E h' n' z => by cases z.1) (s_ent1 (by omega)) (List.forall_mem_cons.mpr ⟨s_vo_r (by omega), s_vo1 (by omega)⟩) (fun v h5 n' z hnn => ?_)
  obtain ⟨hv, rfl, hcl, hk1, hlo2⟩ := z
  cases hv
  have ho := (hlo2 b (by omega)).trans ho
  have md0 := md0.lo hlo2 (by omega)
  have hlo := hlo.trans hlo2 (by omega)
  have md1 : s_md h5 h5 b (b + 11) := s_md.rf
  refine g_putF' dX8_init_23 pX8_16 rfl (fun q z => by cases z; rfl) ho (by omega) (by exact Nat.le_of_ble_eq_true rfl) (by rfl) (by rfl) (fun h6 e6 => ?_)
  have ho : h6 b = .inr (6, [.ref (b + 1), .ref (b + 6), .null, .int 0, .null, .null, .null, .null, .null]) := s_up_at e6
  have md0 := md0.up e6 (by omega)
  have md1 := md1.up e6 (by omega)
  have hcl : s_cl h6 (b + 11) := hcl.up e6 (Nat.le_refl _) (List.forall_mem_cons.mpr ⟨s_vo_r (by omega), (List.forall_mem_cons.mpr ⟨s_vo_r (by omega), (List.forall_mem_cons.mpr ⟨trivial, (List.forall_mem_cons.mpr ⟨trivial, (List.forall_mem_cons.mpr ⟨trivial, (List.forall_mem_cons.mpr ⟨trivial, (List.forall_mem_cons.mpr ⟨trivial, (List.forall_mem_cons.mpr ⟨trivial, (List.forall_mem_cons.mpr ⟨trivial, (fun _ z => nomatch z)⟩)⟩)⟩)⟩)⟩)⟩)⟩)⟩)⟩) (fun j a c => by omega)
  have hlo := hlo.up e6 (by omega)
  refine g_aload_n dX8_init_26 rfl (by rfl) ?_
  refine g_new' (ci := 0) (C := RX2) (T9 := TX2) (N := 9) tyX2 dX8_init_27 rfl wiX2 tyX2_ok wk_8_9 wn_2 wz_2 zf_X2 zv_X2 (by omega) hcl (s_ent1 (by omega)) (s_vo1 (by omega)) (by omega) (by omega) (fun h7 e7 hcl => ?_)
  have ho := s_up_off e7 (by omega) ho
  have md0 := md0.up e7 (by omega)
  have md1 := md1.up e7 (by omega)
  have hon := s_up_at e7
  have hlo := hlo.up e7 (by omega)
  refine g_dup dX8_init_30 (by rfl) ?_
  refine g_callINg (rest := [.ref (b + 11), .ref b]) (c_X2_init hon hcl (by omega)) dX8_init_31 mX2_init rfl (by decide) iX2_init rfl rfl (by decide) rfl rfl (Nat.le_of_ble_eq_true rfl) (by omega) (by omega) (fun E h' n' z => by cases z.1) (s_ent1 (by omega)) (List.forall_mem_cons.mpr ⟨s_vo_r (by omega), s_vo1 (by omega)⟩) (fun v h8 n' z hnn => ?_)
  obtain ⟨hv, rfl, hcl, hk2, hlo2⟩ := z
  cases hv
  have ho := (hlo2 b (by omega)).trans ho
  have md0 := md0.lo hlo2 (by omega)
  have md1 := md1.lo hlo2 (by omega)
  have hlo := hlo.trans hlo2 (by omega)
  have md2 : s_md h8 h8 b (b + 16) := s_md.rf
  refine g_putF' dX8_init_34 pX8_19 rfl (fun q z => by cases z; rfl) ho (by omega) (by exact Nat.le_of_ble_eq_true rfl) (by rfl) (by rfl) (fun h9 e9 => ?_)
  have ho : h9 b = .inr (6, [.ref (b + 1), .ref (b + 6), .ref (b + 11), .int 0, .null, .null, .null, .null, .null]) := s_up_at e9
  have md0 := md0.up e9 (by omega)
  have md1 := md1.up e9 (by omega)
  have md2 := md2.up e9 (by omega)
  have hcl : s_cl h9 (b + 16) := hcl.up e9 (Nat.le_refl _) (List.forall_mem_cons.mpr ⟨s_vo_r (by omega), (List.forall_mem_cons.mpr ⟨s_vo_r (by omega), (List.forall_mem_cons.mpr ⟨s_vo_r (by omega), (List.forall_mem_cons.mpr ⟨trivial, (List.forall_mem_cons.mpr ⟨trivial, (List.forall_mem_cons.mpr ⟨trivial, (List.forall_mem_cons.mpr ⟨trivial, (List.forall_mem_cons.mpr ⟨trivial, (List.forall_mem_cons.mpr ⟨trivial, (fun _ z => nomatch z)⟩)⟩)⟩)⟩)⟩)⟩)⟩)⟩)⟩) (fun j a c => by omega)
  have hlo := hlo.up e9 (by omega)
  refine g_aload_n dX8_init_37 rfl (by rfl) ?_
  refine g_iconst 0 dX8_init_38 (by rfl) ?_
  refine g_putf' dX8_init_39 pX8_22 ho (by omega) (by exact Nat.le_of_ble_eq_true rfl) (by rfl) (by rfl) (fun h10 e10 => ?_)
  have ho : h10 b = .inr (6, [.ref (b + 1), .ref (b + 6), .ref (b + 11), .int 0, .null, .null, .null, .null, .null]) := s_up_at e10
  have md0 := md0.up e10 (by omega)
  have md1 := md1.up e10 (by omega)
  have md2 := md2.up e10 (by omega)
  have hcl : s_cl h10 (b + 16) := hcl.up e10 (Nat.le_refl _) (List.forall_mem_cons.mpr ⟨s_vo_r (by omega), (List.forall_mem_cons.mpr ⟨s_vo_r (by omega), (List.forall_mem_cons.mpr ⟨s_vo_r (by omega), (List.forall_mem_cons.mpr ⟨trivial, (List.forall_mem_cons.mpr ⟨trivial, (List.forall_mem_cons.mpr ⟨trivial, (List.forall_mem_cons.mpr ⟨trivial, (List.forall_mem_cons.mpr ⟨trivial, (List.forall_mem_cons.mpr ⟨trivial, (fun _ z => nomatch z)⟩)⟩)⟩)⟩)⟩)⟩)⟩)⟩)⟩) (fun j a c => by omega)
  have hlo := hlo.up e10 (by omega)
  refine g_aload_n dX8_init_42 rfl (by rfl) ?_
  refine g_new' (ci := 2) (C := RX4) (T9 := TX4) (N := 2) tyX4 dX8_init_43 rfl wiX4 tyX4_ok wk_8_26 wn_4 wz_4 zf_X4 zv_X4 (by omega) hcl (s_ent1 (by omega)) (s_vo1 (by omega)) (by omega) (by omega) (fun h11 e11 hcl => ?_)
  have ho := s_up_off e11 (by omega) ho
  have md0 := md0.up e11 (by omega)
  have md1 := md1.up e11 (by omega)
  have md2 := md2.up e11 (by omega)
  have hon := s_up_at e11
  have hlo := hlo.up e11 (by omega)
  refine g_dup dX8_init_46 (by rfl) ?_
  refine g_callIg (rest := [.ref (b + 16), .ref b]) (c_X4_init hon hcl (by omega)) dX8_init_47 mX4_init rfl lX8_28 iX4_init rfl rfl (by decide) rfl rfl (Nat.le_of_ble_eq_true rfl) (by omega) (by omega) (fun E h' n' z => by cases z.1) (s_ent1 (by omega)) (List.forall_mem_cons.mpr ⟨s_vo_r (by omega), s_vo1 (by omega)⟩) (fun v h12 n' z hnn => ?_)
  obtain ⟨hv, rfl, hcl, hk3, hlo2⟩ := z
  cases hv
  have ho := (hlo2 b (by omega)).trans ho
  have md0 := md0.lo hlo2 (by omega)
  have md1 := md1.lo hlo2 (by omega)
  have md2 := md2.lo hlo2 (by omega)
  have hlo := hlo.trans hlo2 (by omega)
  have md3 : s_md h12 h12 b (b + 68) := s_md.rf
  refine g_putF' dX8_init_50 pX8_29 rfl (fun q z => by cases z; rfl) ho (by omega) (by exact Nat.le_of_ble_eq_true rfl) (by rfl) (by rfl) (fun h13 e13 => ?_)
  have ho : h13 b = .inr (6, [.ref (b + 1), .ref (b + 6), .ref (b + 11), .int 0, .ref (b + 16), .null, .null, .null, .null]) := s_up_at e13
  have md0 := md0.up e13 (by omega)
  have md1 := md1.up e13 (by omega)
  have md2 := md2.up e13 (by omega)
  have md3 := md3.up e13 (by omega)
  have hcl : s_cl h13 (b + 68) := hcl.up e13 (Nat.le_refl _) (List.forall_mem_cons.mpr ⟨s_vo_r (by omega), (List.forall_mem_cons.mpr ⟨s_vo_r (by omega), (List.forall_mem_cons.mpr ⟨s_vo_r (by omega), (List.forall_mem_cons.mpr ⟨trivial, (List.forall_mem_cons.mpr ⟨s_vo_r (by omega), (List.forall_mem_cons.mpr ⟨trivial, (List.forall_mem_cons.mpr ⟨trivial, (List.forall_mem_cons.mpr ⟨trivial, (List.forall_mem_cons.mpr ⟨trivial, (fun _ z => nomatch z)⟩)⟩)⟩)⟩)⟩)⟩)⟩)⟩)⟩) (fun j a c => by omega)
  have hlo := hlo.up e13 (by omega)
  refine g_aload_n dX8_init_53 rfl (by rfl) ?_
  refine g_new' (ci := 5) (C := RX7) (T9 := TX7) (N := 6) tyX7 dX8_init_54 rfl wiX7 tyX7_ok wk_8_33 wn_7 wz_7 zf_X7 zv_X7 (by omega) hcl (s_ent1 (by omega)) (s_vo1 (by omega)) (by omega) (by omega) (fun h14 e14 hcl => ?_)
  have ho := s_up_off e14 (by omega) ho
  have md0 := md0.up e14 (by omega)
  have md1 := md1.up e14 (by omega)
  have md2 := md2.up e14 (by omega)
  have md3 := md3.up e14 (by omega)
  have hon := s_up_at e14
  have hlo := hlo.up e14 (by omega)
  refine g_dup dX8_init_57 (by rfl) ?_
  refine g_callINg (rest := [.ref (b + 68), .ref b]) (c_X7_init hon hcl (by omega)) dX8_init_58 mX7_init rfl (by decide) iX7_init rfl rfl (by decide) rfl rfl (Nat.le_of_ble_eq_true rfl) (by omega) (by omega) (fun E h' n' z => by cases z.1) (s_ent1 (by omega)) (List.forall_mem_cons.mpr ⟨s_vo_r (by omega), s_vo1 (by omega)⟩) (fun v h15 n' z hnn => ?_)
  obtain ⟨hv, rfl, hcl, hk4, hlo2⟩ := z
  cases hv
  have ho := (hlo2 b (by omega)).trans ho
  have md0 := md0.lo hlo2 (by omega)
  have md1 := md1.lo hlo2 (by omega)
  have md2 := md2.lo hlo2 (by omega)
  have md3 := md3.lo hlo2 (by omega)
  have hlo := hlo.trans hlo2 (by omega)
  have md4 : s_md h15 h15 b (b + 87) := s_md.rf
  refine g_putF' dX8_init_61 pX8_36 rfl (fun q z => by cases z; rfl) ho (by omega) (by exact Nat.le_of_ble_eq_true rfl) (by rfl) (by rfl) (fun h16 e16 => ?_)
  have ho : h16 b = .inr (6, [.ref (b + 1), .ref (b + 6), .ref (b + 11), .int 0, .ref (b + 16), .ref (b + 68), .null, .null, .null]) := s_up_at e16
  have md0 := md0.up e16 (by omega)
  have md1 := md1.up e16 (by omega)
  have md2 := md2.up e16 (by omega)
  have md3 := md3.up e16 (by omega)
  have md4 := md4.up e16 (by omega)
  have hcl : s_cl h16 (b + 87) := hcl.up e16 (Nat.le_refl _) (List.forall_mem_cons.mpr ⟨s_vo_r (by omega), (List.forall_mem_cons.mpr ⟨s_vo_r (by omega), (List.forall_mem_cons.mpr ⟨s_vo_r (by omega), (List.forall_mem_cons.mpr ⟨trivial, (List.forall_mem_cons.mpr ⟨s_vo_r (by omega), (List.forall_mem_cons.mpr ⟨s_vo_r (by omega), (List.forall_mem_cons.mpr ⟨trivial, (List.forall_mem_cons.mpr ⟨trivial, (List.forall_mem_cons.mpr ⟨trivial, (fun _ z => nomatch z)⟩)⟩)⟩)⟩)⟩)⟩)⟩)⟩)⟩) (fun j a c => by omega)
  have hlo := hlo.up e16 (by omega)
  refine g_aload_n dX8_init_64 rfl (by rfl) ?_
  refine g_new' (ci := 1) (C := RX3) (T9 := TX3) (N := 2) tyX3 dX8_init_65 rfl wiX3 tyX3_ok wk_8_40 wn_3 wz_3 zf_X3 zv_X3 (by omega) hcl (s_ent1 (by omega)) (s_vo1 (by omega)) (by omega) (by omega) (fun h17 e17 hcl => ?_)
  have ho := s_up_off e17 (by omega) ho
  have md0 := md0.up e17 (by omega)
  have md1 := md1.up e17 (by omega)
  have md2 := md2.up e17 (by omega)
  have md3 := md3.up e17 (by omega)
  have md4 := md4.up e17 (by omega)
  have hon := s_up_at e17
  have hlo := hlo.up e17 (by omega)
  refine g_dup dX8_init_68 (by rfl) ?_
  refine g_callINg (rest := [.ref (b + 87), .ref b]) (c_X3_init hon hcl (by omega)) dX8_init_69 mX3_init rfl (by decide) iX3_init rfl rfl (by decide) rfl rfl (Nat.le_of_ble_eq_true rfl) (by omega) (by omega) (fun E h' n' z => by cases z.1) (s_ent1 (by omega)) (List.forall_mem_cons.mpr ⟨s_vo_r (by omega), s_vo1 (by omega)⟩) (fun v h18 n' z hnn => ?_)
  obtain ⟨hv, rfl, hcl, hk5, hlo2⟩ := z
  cases hv
  have ho := (hlo2 b (by omega)).trans ho
  have md0 := md0.lo hlo2 (by omega)
  have md1 := md1.lo hlo2 (by omega)
  have md2 := md2.lo hlo2 (by omega)
  have md3 := md3.lo hlo2 (by omega)
  have md4 := md4.lo hlo2 (by omega)
  have hlo := hlo.trans hlo2 (by omega)
  have md5 : s_md h18 h18 b (b + 89) := s_md.rf
  refine g_putF' dX8_init_72 pX8_43 rfl (fun q z => by cases z; rfl) ho (by omega) (by exact Nat.le_of_ble_eq_true rfl) (by rfl) (by rfl) (fun h19 e19 => ?_)
  have ho : h19 b = .inr (6, [.ref (b + 1), .ref (b + 6), .ref (b + 11), .int 0, .ref (b + 16), .ref (b + 68), .ref (b + 87), .null, .null]) := s_up_at e19
  have md0 := md0.up e19 (by omega)
  have md1 := md1.up e19 (by omega)
  have md2 := md2.up e19 (by omega)
  have md3 := md3.up e19 (by omega)
  have md4 := md4.up e19 (by omega)
  have md5 := md5.up e19 (by omega)
  have hcl : s_cl h19 (b + 89) := hcl.up e19 (Nat.le_refl _) (List.forall_mem_cons.mpr ⟨s_vo_r (by omega), (List.forall_mem_cons.mpr ⟨s_vo_r (by omega), (List.forall_mem_cons.mpr ⟨s_vo_r (by omega), (List.forall_mem_cons.mpr ⟨trivial, (List.forall_mem_cons.mpr ⟨s_vo_r (by omega), (List.forall_mem_cons.mpr ⟨s_vo_r (by omega), (List.forall_mem_cons.mpr ⟨s_vo_r (by omega), (List.forall_mem_cons.mpr ⟨trivial, (List.forall_mem_cons.mpr ⟨trivial, (fun _ z => nomatch z)⟩)⟩)⟩)⟩)⟩)⟩)⟩)⟩)⟩) (fun j a c => by omega)
  have hlo := hlo.up e19 (by omega)
  refine g_aload_n dX8_init_75 rfl (by rfl) ?_
  refine g_new' (ci := 4) (C := RX6) (T9 := TX6) (N := 8) tyX6 dX8_init_76 rfl wiX6 tyX6_ok wk_8_47 wn_6 wz_6 zf_X6 zv_X6 (by omega) hcl (s_ent1 (by omega)) (s_vo1 (by omega)) (by omega) (by omega) (fun h20 e20 hcl => ?_)
  have ho := s_up_off e20 (by omega) ho
  have md0 := md0.up e20 (by omega)
  have md1 := md1.up e20 (by omega)
  have md2 := md2.up e20 (by omega)
  have md3 := md3.up e20 (by omega)
  have md4 := md4.up e20 (by omega)
  have md5 := md5.up e20 (by omega)
  have hon := s_up_at e20
  have hlo := hlo.up e20 (by omega)
  refine g_dup dX8_init_79 (by rfl) ?_
  refine g_callINg (rest := [.ref (b + 89), .ref b]) (c_X6_init hon hcl (by omega)) dX8_init_80 mX6_init rfl (by decide) iX6_init rfl rfl (by decide) rfl rfl (Nat.le_of_ble_eq_true rfl) (by omega) (by omega) (fun E h' n' z => by cases z.1) (s_ent1 (by omega)) (List.forall_mem_cons.mpr ⟨s_vo_r (by omega), s_vo1 (by omega)⟩) (fun v h21 n' z hnn => ?_)
  obtain ⟨hv, rfl, hcl, hk6, hlo2⟩ := z
  cases hv
  have ho := (hlo2 b (by omega)).trans ho
  have md0 := md0.lo hlo2 (by omega)
  have md1 := md1.lo hlo2 (by omega)
  have md2 := md2.lo hlo2 (by omega)
  have md3 := md3.lo hlo2 (by omega)
  have md4 := md4.lo hlo2 (by omega)
  have md5 := md5.lo hlo2 (by omega)
  have hlo := hlo.trans hlo2 (by omega)
  have md6 : s_md h21 h21 b (b + 91) := s_md.rf
  refine g_putF' dX8_init_83 pX8_50 rfl (fun q z => by cases z; rfl) ho (by omega) (by exact Nat.le_of_ble_eq_true rfl) (by rfl) (by rfl) (fun h22 e22 => ?_)
  have ho : h22 b = .inr (6, [.ref (b + 1), .ref (b + 6), .ref (b + 11), .int 0, .ref (b + 16), .ref (b + 68), .ref (b + 87), .ref (b + 89), .null]) := s_up_at e22
  have md0 := md0.up e22 (by omega)
  have md1 := md1.up e22 (by omega)
  have md2 := md2.up e22 (by omega)
  have md3 := md3.up e22 (by omega)
  have md4 := md4.up e22 (by omega)
  have md5 := md5.up e22 (by omega)
  have md6 := md6.up e22 (by omega)
  have hcl : s_cl h22 (b + 91) := hcl.up e22 (Nat.le_refl _) (List.forall_mem_cons.mpr ⟨s_vo_r (by omega), (List.forall_mem_cons.mpr ⟨s_vo_r (by omega), (List.forall_mem_cons.mpr ⟨s_vo_r (by omega), (List.forall_mem_cons.mpr ⟨trivial, (List.forall_mem_cons.mpr ⟨s_vo_r (by omega), (List.forall_mem_cons.mpr ⟨s_vo_r (by omega), (List.forall_mem_cons.mpr ⟨s_vo_r (by omega), (List.forall_mem_cons.mpr ⟨s_vo_r (by omega), (List.forall_mem_cons.mpr ⟨trivial, (fun _ z => nomatch z)⟩)⟩)⟩)⟩)⟩)⟩)⟩)⟩)⟩) (fun j a c => by omega)
  have hlo := hlo.up e22 (by omega)
  refine g_aload_n dX8_init_86 rfl (by rfl) ?_
  refine g_new' (ci := 3) (C := RX5) (T9 := TX5) (N := 2) tyX5 dX8_init_87 rfl wiX5 tyX5_ok wk_8_54 wn_5 wz_5 zf_X5 zv_X5 (by omega) hcl (s_ent1 (by omega)) (s_vo1 (by omega)) (by omega) (by omega) (fun h23 e23 hcl => ?_)
  have ho := s_up_off e23 (by omega) ho
  have md0 := md0.up e23 (by omega)
  have md1 := md1.up e23 (by omega)
  have md2 := md2.up e23 (by omega)
  have md3 := md3.up e23 (by omega)
  have md4 := md4.up e23 (by omega)
  have md5 := md5.up e23 (by omega)
  have md6 := md6.up e23 (by omega)
  have hon := s_up_at e23
  have hlo := hlo.up e23 (by omega)
  refine g_dup dX8_init_90 (by rfl) ?_
  refine g_callINg (rest := [.ref (b + 91), .ref b]) (c_X5_init hon hcl (by omega)) dX8_init_91 mX5_init rfl (by decide) iX5_init rfl rfl (by decide) rfl rfl (Nat.le_of_ble_eq_true rfl) (by omega) (by omega) (fun E h' n' z => by cases z.1) (s_ent1 (by omega)) (List.forall_mem_cons.mpr ⟨s_vo_r (by omega), s_vo1 (by omega)⟩) (fun v h24 n' z hnn => ?_)
  obtain ⟨hv, rfl, hcl, hk7, hlo2⟩ := z
  cases hv
  have ho := (hlo2 b (by omega)).trans ho
  have md0 := md0.lo hlo2 (by omega)
  have md1 := md1.lo hlo2 (by omega)
  have md2 := md2.lo hlo2 (by omega)
  have md3 := md3.lo hlo2 (by omega)
  have md4 := md4.lo hlo2 (by omega)
  have md5 := md5.lo hlo2 (by omega)
  have md6 := md6.lo hlo2 (by omega)
  have hlo := hlo.trans hlo2 (by omega)
  have md7 : s_md h24 h24 b (b + 93) := s_md.rf
  refine g_putF' dX8_init_94 pX8_57 rfl (fun q z => by cases z; rfl) ho (by omega) (by exact Nat.le_of_ble_eq_true rfl) (by rfl) (by rfl) (fun h25 e25 => ?_)
  have ho : h25 b = .inr (6, [.ref (b + 1), .ref (b + 6), .ref (b + 11), .int 0, .ref (b + 16), .ref (b + 68), .ref (b + 87), .ref (b + 89), .ref (b + 91)]) := s_up_at e25
  have md0 := md0.up e25 (by omega)
  have md1 := md1.up e25 (by omega)
  have md2 := md2.up e25 (by omega)
  have md3 := md3.up e25 (by omega)
  have md4 := md4.up e25 (by omega)
  have md5 := md5.up e25 (by omega)
  have md6 := md6.up e25 (by omega)
  have md7 := md7.up e25 (by omega)
  have hcl : s_cl h25 (b + 93) := hcl.up e25 (Nat.le_refl _) (List.forall_mem_cons.mpr ⟨s_vo_r (by omega), (List.forall_mem_cons.mpr ⟨s_vo_r (by omega), (List.forall_mem_cons.mpr ⟨s_vo_r (by omega), (List.forall_mem_cons.mpr ⟨trivial, (List.forall_mem_cons.mpr ⟨s_vo_r (by omega), (List.forall_mem_cons.mpr ⟨s_vo_r (by omega), (List.forall_mem_cons.mpr ⟨s_vo_r (by omega), (List.forall_mem_cons.mpr ⟨s_vo_r (by omega), (List.forall_mem_cons.mpr ⟨s_vo_r (by omega), (fun _ z => nomatch z)⟩)⟩)⟩)⟩)⟩)⟩)⟩)⟩)⟩) (fun j a c => by omega)
  have hlo := hlo.up e25 (by omega)
  have kd := hk0.md md0 (by omega)
  have hP : s_pl h25 b (s_D0, s_D0, 0, fun _ => s_D0, 0, fun _ => 0, 0, 0, -1, []) := ⟨ho, kd, hk2.md md2 (by omega), ⟨_, hk1.md md1 (by omega)⟩, ⟨_, hk3.md md3 (by omega)⟩, ⟨_, hk4.md md4 (by omega), fun _ _ => rfl⟩, ⟨fun _ => 0, 0, ⟨(md5 _ (by omega) (by omega)).trans hk5.1, _, (md5 _ (by omega) (by omega)).trans hk5.2, fun q hq => absurd hq (Nat.not_lt_zero q)⟩, Nat.zero_le _, fun q hq => absurd hq (Nat.not_lt_zero q)⟩, ⟨_, _, _, _, (md6 _ (by omega) (by omega)).trans hk6.1, (md6 _ (by omega) (by omega)).trans hk6.2⟩, (md7 _ (by omega) (by omega)).trans hk7.1, Nat.zero_le _, _, (md7 _ (by omega) (by omega)).trans hk7.2, fun q hq => absurd hq (Nat.not_lt_zero q)⟩
  have hx := kd.1
  have hoff : s_off h25 h25 (b + 1) (b + 6) := s_off.rf
  refine g_aload_n dX8_init_97 rfl (by rfl) ?_
  refine g_getf dX8_init_98 fX8_12 (by exact ho) (by omega) (by rfl) ?_
  refine g_bipush 20 dX8_init_101 (by rfl) ?_
  refine g_callV_p (c_X2_reset kd (by omega) 20) dX8_init_103 (mX2_reset) rfl lX8_61 iX2_reset vX2_reset (by decide) (by omega) (by exact hx) rfl rfl rfl rfl (Nat.le_of_ble_eq_true rfl) (fun v9 h9 z9 => ?_)
  obtain ⟨rfl, kd, qoff⟩ := z9
  have hoff := hoff.trans (qoff.wide (a' := b + 1) (b' := b + 6) (by omega) (by omega))
  have ho := (qoff b (by omega)).trans ho
  have hx := kd.1
  refine g_aload_n dX8_init_106 rfl (by rfl) ?_
  refine g_getf dX8_init_107 fX8_12 (by exact ho) (by omega) (by rfl) ?_
  refine g_bipush 7 dX8_init_110 (by rfl) ?_
  refine g_bipush 30 dX8_init_112 (by rfl) ?_
  refine g_callV_p (c_X2_add kd (by omega) (cnt := 0) rfl (by omega) 7 30) dX8_init_114 (mX2_add) rfl lX8_65 iX2_add vX2_add (by decide) (by omega) (by exact hx) rfl rfl rfl rfl (Nat.le_of_ble_eq_true rfl) (fun v9 h9 z9 => ?_)
  obtain ⟨rfl, kd, qoff⟩ := z9
  have hoff := hoff.trans (qoff.wide (a' := b + 1) (b' := b + 6) (by omega) (by omega))
  have ho := (qoff b (by omega)).trans ho
  have hx := kd.1
  refine g_aload_n dX8_init_117 rfl (by rfl) ?_
  refine g_getf dX8_init_118 fX8_12 (by exact ho) (by omega) (by rfl) ?_
  refine g_bipush 9 dX8_init_121 (by rfl) ?_
  refine g_bipush 42 dX8_init_123 (by rfl) ?_
  refine g_callV_p (c_X2_add kd (by omega) (cnt := 1) rfl (by omega) 9 42) dX8_init_125 (mX2_add) rfl lX8_65 iX2_add vX2_add (by decide) (by omega) (by exact hx) rfl rfl rfl rfl (Nat.le_of_ble_eq_true rfl) (fun v9 h9 z9 => ?_)
  obtain ⟨rfl, kd, qoff⟩ := z9
  have hoff := hoff.trans (qoff.wide (a' := b + 1) (b' := b + 6) (by omega) (by omega))
  have ho := (qoff b (by omega)).trans ho
  have hx := kd.1
  refine g_aload_n dX8_init_128 rfl (by rfl) ?_
  refine g_getf dX8_init_129 fX8_12 (by exact ho) (by omega) (by rfl) ?_
  refine g_iconst 4 dX8_init_132 (by rfl) ?_
  refine g_bipush 12 dX8_init_133 (by rfl) ?_
  refine g_callV_p (c_X2_add kd (by omega) (cnt := 2) rfl (by omega) 4 12) dX8_init_135 (mX2_add) rfl lX8_65 iX2_add vX2_add (by decide) (by omega) (by exact hx) rfl rfl rfl rfl (Nat.le_of_ble_eq_true rfl) (fun v9 h9 z9 => ?_)
  obtain ⟨rfl, kd, qoff⟩ := z9
  have hoff := hoff.trans (qoff.wide (a' := b + 1) (b' := b + 6) (by omega) (by omega))
  have ho := (qoff b (by omega)).trans ho
  have hx := kd.1
  refine g_aload_n dX8_init_138 rfl (by rfl) ?_
  refine g_getf dX8_init_139 fX8_12 (by exact ho) (by omega) (by rfl) ?_
  refine g_bipush 12 dX8_init_142 (by rfl) ?_
  refine g_bipush 50 dX8_init_144 (by rfl) ?_
  refine g_callV_p (c_X2_add kd (by omega) (cnt := 3) rfl (by omega) 12 50) dX8_init_146 (mX2_add) rfl lX8_65 iX2_add vX2_add (by decide) (by omega) (by exact hx) rfl rfl rfl rfl (Nat.le_of_ble_eq_true rfl) (fun v9 h9 z9 => ?_)
  obtain ⟨rfl, kd, qoff⟩ := z9
  have hoff := hoff.trans (qoff.wide (a' := b + 1) (b' := b + 6) (by omega) (by omega))
  have ho := (qoff b (by omega)).trans ho
  have hx := kd.1
  refine g_aload_n dX8_init_149 rfl (by rfl) ?_
  refine g_getf dX8_init_150 fX8_12 (by exact ho) (by omega) (by rfl) ?_
  refine g_iconst 5 dX8_init_153 (by rfl) ?_
  refine g_bipush 12 dX8_init_154 (by rfl) ?_
  refine g_callV_p (c_X2_add kd (by omega) (cnt := 4) rfl (by omega) 5 12) dX8_init_156 (mX2_add) rfl lX8_65 iX2_add vX2_add (by decide) (by omega) (by exact hx) rfl rfl rfl rfl (Nat.le_of_ble_eq_true rfl) (fun v9 h9 z9 => ?_)
  obtain ⟨rfl, kd, qoff⟩ := z9
  have hoff := hoff.trans (qoff.wide (a' := b + 1) (b' := b + 6) (by omega) (by omega))
  have ho := (qoff b (by omega)).trans ho
  have hx := kd.1
  refine g_aload_n dX8_init_159 rfl (by rfl) ?_
  refine g_getf dX8_init_160 fX8_12 (by exact ho) (by omega) (by rfl) ?_
  refine g_iconst 3 dX8_init_163 (by rfl) ?_
  refine g_iconst 2 dX8_init_164 (by rfl) ?_
  refine g_callV_p (c_X2_add kd (by omega) (cnt := 5) rfl (by omega) 3 2) dX8_init_165 (mX2_add) rfl lX8_65 iX2_add vX2_add (by decide) (by omega) (by exact hx) rfl rfl rfl rfl (Nat.le_of_ble_eq_true rfl) (fun v9 h9 z9 => ?_)
  obtain ⟨rfl, kd, qoff⟩ := z9
  have hoff := hoff.trans (qoff.wide (a' := b + 1) (b' := b + 6) (by omega) (by omega))
  have ho := (qoff b (by omega)).trans ho
  have hx := kd.1
  refine g_aload_n dX8_init_168 rfl (by rfl) ?_
  refine g_getf dX8_init_169 fX8_12 (by exact ho) (by omega) (by rfl) ?_
  refine g_getf dX8_init_172 fX8_69 (by exact hx) (by omega) (by rfl) ?_
  have hst := kd.2.2.2.2
  refine g_iconst 5 dX8_init_175 (by rfl) ?_
  refine g_iconst 1 dX8_init_176 (by rfl) ?_
  refine g_iast' dX8_init_177 (by exact hst) (by omega) (show (5 : Int32) = nI 5 from rfl) (by omega) (by omega) (fun h301 e301 => ?_)
  first | have ho_301 := s_up_off e301 (by omega) ho | have ho_301 := s_up_at e301
  first | have hx_301 := s_up_off e301 (by omega) hx | have hx_301 := s_up_at e301
  first | have hst_301 := s_up_off e301 (by omega) hst | have hst_301 := s_up_at e301
  have kd : s_disk h301 (b + 1) (d_put (d_add (d_add (d_add (d_add (d_add (d_add (x_rst s_D0 20) 0 7 30) 1 9 42) 2 4 12) 3 12 50) 4 5 12) 5 3 2) 3 5 1) := ⟨s_up_off e301 (by omega) kd.1, s_up_off e301 (by omega) kd.2.1, s_up_off e301 (by omega) kd.2.2.1, s_up_off e301 (by omega) kd.2.2.2.1, s_up_at e301⟩
  have hoff := hoff.up e301 (by omega)
  have ho := s_up_off e301 (by omega) ho
  have hx := kd.1
  have hst := kd.2.2.2.2
  refine g_aload_n dX8_init_178 rfl (by rfl) ?_
  refine g_getf dX8_init_179 fX8_12 (by exact ho) (by omega) (by rfl) ?_
  refine g_getf dX8_init_182 fX8_69 (by exact hx) (by omega) (by rfl) ?_
  refine g_iconst 4 dX8_init_185 (by rfl) ?_
  refine g_iconst 2 dX8_init_186 (by rfl) ?_
  refine g_iast' dX8_init_187 (by exact hst) (by omega) (show (4 : Int32) = nI 4 from rfl) (by omega) (by omega) (fun h302 e302 => ?_)
  first | have ho_302 := s_up_off e302 (by omega) ho | have ho_302 := s_up_at e302
  first | have hx_302 := s_up_off e302 (by omega) hx | have hx_302 := s_up_at e302
  first | have hst_302 := s_up_off e302 (by omega) hst | have hst_302 := s_up_at e302
  have kd : s_disk h302 (b + 1) (d_put (d_put (d_add (d_add (d_add (d_add (d_add (d_add (x_rst s_D0 20) 0 7 30) 1 9 42) 2 4 12) 3 12 50) 4 5 12) 5 3 2) 3 5 1) 3 4 2) := ⟨s_up_off e302 (by omega) kd.1, s_up_off e302 (by omega) kd.2.1, s_up_off e302 (by omega) kd.2.2.1, s_up_off e302 (by omega) kd.2.2.2.1, s_up_at e302⟩
  have hoff := hoff.up e302 (by omega)
  have ho := s_up_off e302 (by omega) ho
  have hx := kd.1
  have hst := kd.2.2.2.2
  refine g_vreturn dX8_init_188 rfl ?_
  refine ⟨rfl, rfl, fun i hi => ?_, ?_, fun j hj => (hoff j (by omega)).trans (hlo j hj)⟩
  · by_cases z : b + 1 ≤ i ∧ i < b + 6
    · have h5 : i = b + 1 ∨ i = b + 1 + 1 ∨ i = b + 1 + 2 ∨ i = b + 1 + 3 ∨ i = b + 1 + 4 := by omega
      rcases h5 with z | z | z | z | z
      · rw [z, kd.1]
        exact (List.forall_mem_cons.mpr ⟨s_vo_r (by omega), (List.forall_mem_cons.mpr ⟨s_vo_r (by omega), (List.forall_mem_cons.mpr ⟨s_vo_r (by omega), (List.forall_mem_cons.mpr ⟨s_vo_r (by omega), (List.forall_mem_cons.mpr ⟨trivial, (List.forall_mem_cons.mpr ⟨trivial, (List.forall_mem_cons.mpr ⟨trivial, (List.forall_mem_cons.mpr ⟨trivial, (List.forall_mem_cons.mpr ⟨trivial, (fun _ z => nomatch z)⟩)⟩)⟩)⟩)⟩)⟩)⟩)⟩)⟩)
      · rw [z, kd.2.1]; trivial
      · rw [z, kd.2.2.1]; trivial
      · rw [z, kd.2.2.2.1]; trivial
      · rw [z, kd.2.2.2.2]; trivial
    · rw [hoff i (by omega)]
      exact hcl i hi
  · exact hP.disk (hoff.wide (by omega) (by omega)) kd
