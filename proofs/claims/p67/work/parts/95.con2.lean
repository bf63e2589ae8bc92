/-! CONSTRUCTORS: tables -/
theorem s_lo.mn {h h1 h2 : s_H} {d n N' : Nat} {o r : s_O} (q : s_lo h h1 d) (e : h2 = s_mn h1 n N' o r) (hi : d ≤ n) : s_lo h h2 d := fun j hj => by
  rw [e, s_mn_lt (by omega)]
  exact q j hj
theorem wq_7 : Cond.classLink RX7 9 ("[" ++ (FieldType.array .long).toString) ∈ s_WL := s_WL_of 137 (by decide +kernel) rfl
theorem s_mo_4 (d : Nat) : s_mo 4 (d + 1) 15 = (.inl (4, 15, .inr (.inr (.inr (.inr (fun i => if i < 15 then some (d + 2 + i) else none))))) : s_O) := rfl

theorem c_X7_init {h : s_H} {d : Nat} (ho : h d = .inr (5, [.null, .null, .null, .int 0, .int 0, .long 0])) (hcl : s_cl h (d + 1)) (hb : d + 19 ≤ s_big) : s_Mt TX7_init 18 1645 [.ref d] h (d + 1) (fun o h1 n1 => o = .inl none ∧ n1 = d + 19 ∧ s_cl h1 (d + 19) ∧ s_tab h1 d (fun _ _ => 0, fun _ => 0, fun _ => 0, 0, 0, 0) ∧ s_lo h h1 d) := by
  refine s_Mt_of rfl (by decide) (by exact Nat.le_of_ble_eq_true rfl) ?_
  have hlo : s_lo h h d := s_lo.rf
  refine g_aload_n dX7_init_0 rfl (by rfl) ?_
  refine g_objInit dX7_init_1 wl_X7 wi_obj wc_obj (Nat.le_of_ble_eq_true rfl) ?_
  refine g_aload_n dX7_init_4 rfl (by rfl) ?_
  refine g_bipush (15) dX7_init_5 (by rfl) ?_
  refine g_bipush (101) dX7_init_7 (by rfl) ?_
  refine g_mnaJ (N' := 15) (K' := 101) dX7_init_9 wq_7 wa_L rfl rfl (by omega) (by omega) (by omega) hcl (s_ent1 (by omega)) (s_vo1 (by omega)) (by omega) (by omega) (fun h1 e1 hcl => ?_)
  have mv : ∀ {j : Nat} {o : s_O}, j < d + 1 → h j = o → h1 j = o := fun hj hz => by rw [e1]; exact (s_mn_lt hj).trans hz
  have ho := mv (by omega) ho
  have ha1 : h1 (d + 1) = s_mo 4 (d + 1) 15 := by rw [e1]; exact s_mn_0
  have hr2 : ∀ r, r < 15 → h1 (d + 2 + r) = (.inl (1, 101, .inr (.inl (fun _ => 0))) : s_O) := fun r hr => by rw [e1]; exact s_mn_1 (n := d + 1) hr
  have hlo := hlo.mn e1 (by omega)
  refine g_putF' dX7_init_13 pX7_11 rfl (fun q z => by cases z; rfl) ho (by omega) (by exact Nat.le_of_ble_eq_true rfl) (by rfl) (by rfl) (fun h2 e2 => ?_)
  have ho : h2 d = .inr (5, [.ref (d + 1), .null, .null, .int 0, .int 0, .long 0]) := s_up_at e2
  have ha1 := s_up_off e2 (by omega) ha1
  have hr2 : ∀ r, r < 15 → h2 (d + 2 + r) = _ := fun r hr => s_up_off e2 (by omega) (hr2 r hr)
  have hcl : s_cl h2 (d + 17) := hcl.up e2 (Nat.le_refl _) (List.forall_mem_cons.mpr ⟨s_vo_r (by omega), (List.forall_mem_cons.mpr ⟨trivial, (List.forall_mem_cons.mpr ⟨trivial, (List.forall_mem_cons.mpr ⟨trivial, (List.forall_mem_cons.mpr ⟨trivial, (List.forall_mem_cons.mpr ⟨trivial, (fun _ z => nomatch z)⟩)⟩)⟩)⟩)⟩)⟩) (fun j a b => by omega)
  have hlo := hlo.up e2 (by omega)
  refine g_aload_n dX7_init_16 rfl (by rfl) ?_
  refine g_bipush (14) dX7_init_17 (by rfl) ?_
  refine g_newaI (N' := 14) dX7_init_19 wa_I rfl (by omega) (by omega) hcl (s_ent1 (by omega)) (s_vo1 (by omega)) (by omega) (by omega) (fun h3 e3 hcl => ?_)
  have ho := s_up_off e3 (by omega) ho
  have ha1 := s_up_off e3 (by omega) ha1
  have hr2 : ∀ r, r < 15 → h3 (d + 2 + r) = _ := fun r hr => s_up_off e3 (by omega) (hr2 r hr)
  have ha17 := s_up_at e3
  have hlo := hlo.up e3 (by omega)
  refine g_putF' dX7_init_21 pX7_16 rfl (fun q z => by cases z; rfl) ho (by omega) (by exact Nat.le_of_ble_eq_true rfl) (by rfl) (by rfl) (fun h4 e4 => ?_)
  have ho : h4 d = .inr (5, [.ref (d + 1), .ref (d + 17), .null, .int 0, .int 0, .long 0]) := s_up_at e4
  have ha1 := s_up_off e4 (by omega) ha1
  have ha17 := s_up_off e4 (by omega) ha17
  have hr2 : ∀ r, r < 15 → h4 (d + 2 + r) = _ := fun r hr => s_up_off e4 (by omega) (hr2 r hr)
  have hcl : s_cl h4 (d + 18) := hcl.up e4 (Nat.le_refl _) (List.forall_mem_cons.mpr ⟨s_vo_r (by omega), (List.forall_mem_cons.mpr ⟨s_vo_r (by omega), (List.forall_mem_cons.mpr ⟨trivial, (List.forall_mem_cons.mpr ⟨trivial, (List.forall_mem_cons.mpr ⟨trivial, (List.forall_mem_cons.mpr ⟨trivial, (fun _ z => nomatch z)⟩)⟩)⟩)⟩)⟩)⟩) (fun j a b => by omega)
  have hlo := hlo.up e4 (by omega)
  refine g_aload_n dX7_init_24 rfl (by rfl) ?_
  refine g_bipush (101) dX7_init_25 (by rfl) ?_
  refine g_newaI (N' := 101) dX7_init_27 wa_I rfl (by omega) (by omega) hcl (s_ent1 (by omega)) (s_vo1 (by omega)) (by omega) (by omega) (fun h5 e5 hcl => ?_)
  have ho := s_up_off e5 (by omega) ho
  have ha1 := s_up_off e5 (by omega) ha1
  have ha17 := s_up_off e5 (by omega) ha17
  have hr2 : ∀ r, r < 15 → h5 (d + 2 + r) = _ := fun r hr => s_up_off e5 (by omega) (hr2 r hr)
  have ha18 := s_up_at e5
  have hlo := hlo.up e5 (by omega)
  refine g_putF' dX7_init_29 pX7_20 rfl (fun q z => by cases z; rfl) ho (by omega) (by exact Nat.le_of_ble_eq_true rfl) (by rfl) (by rfl) (fun h6 e6 => ?_)
  have ho : h6 d = .inr (5, [.ref (d + 1), .ref (d + 17), .ref (d + 18), .int 0, .int 0, .long 0]) := s_up_at e6
  have ha1 := s_up_off e6 (by omega) ha1
  have ha17 := s_up_off e6 (by omega) ha17
  have ha18 := s_up_off e6 (by omega) ha18
  have hr2 : ∀ r, r < 15 → h6 (d + 2 + r) = _ := fun r hr => s_up_off e6 (by omega) (hr2 r hr)
  have hcl : s_cl h6 (d + 19) := hcl.up e6 (Nat.le_refl _) (List.forall_mem_cons.mpr ⟨s_vo_r (by omega), (List.forall_mem_cons.mpr ⟨s_vo_r (by omega), (List.forall_mem_cons.mpr ⟨s_vo_r (by omega), (List.forall_mem_cons.mpr ⟨trivial, (List.forall_mem_cons.mpr ⟨trivial, (List.forall_mem_cons.mpr ⟨trivial, (fun _ z => nomatch z)⟩)⟩)⟩)⟩)⟩)⟩) (fun j a b => by omega)
  have hlo := hlo.up e6 (by omega)
  refine g_aload_n dX7_init_32 rfl (by rfl) ?_
  refine g_iconst (0) dX7_init_33 (by rfl) ?_
  refine g_putf' dX7_init_34 pX7_23 ho (by omega) (by exact Nat.le_of_ble_eq_true rfl) (by rfl) (by rfl) (fun h7 e7 => ?_)
  have ho : h7 d = .inr (5, [.ref (d + 1), .ref (d + 17), .ref (d + 18), .int (0), .int 0, .long 0]) := s_up_at e7
  have ha1 := s_up_off e7 (by omega) ha1
  have ha17 := s_up_off e7 (by omega) ha17
  have ha18 := s_up_off e7 (by omega) ha18
  have hr2 : ∀ r, r < 15 → h7 (d + 2 + r) = _ := fun r hr => s_up_off e7 (by omega) (hr2 r hr)
  have hcl : s_cl h7 (d + 19) := hcl.up e7 (Nat.le_refl _) (List.forall_mem_cons.mpr ⟨s_vo_r (by omega), (List.forall_mem_cons.mpr ⟨s_vo_r (by omega), (List.forall_mem_cons.mpr ⟨s_vo_r (by omega), (List.forall_mem_cons.mpr ⟨trivial, (List.forall_mem_cons.mpr ⟨trivial, (List.forall_mem_cons.mpr ⟨trivial, (fun _ z => nomatch z)⟩)⟩)⟩)⟩)⟩)⟩) (fun j a b => by omega)
  have hlo := hlo.up e7 (by omega)
  refine g_aload_n dX7_init_37 rfl (by rfl) ?_
  refine g_iconst (0) dX7_init_38 (by rfl) ?_
  refine g_putf' dX7_init_39 pX7_27 ho (by omega) (by exact Nat.le_of_ble_eq_true rfl) (by rfl) (by rfl) (fun h8 e8 => ?_)
  have ho : h8 d = .inr (5, [.ref (d + 1), .ref (d + 17), .ref (d + 18), .int (0), .int (0), .long 0]) := s_up_at e8
  have ha1 := s_up_off e8 (by omega) ha1
  have ha17 := s_up_off e8 (by omega) ha17
  have ha18 := s_up_off e8 (by omega) ha18
  have hr2 : ∀ r, r < 15 → h8 (d + 2 + r) = _ := fun r hr => s_up_off e8 (by omega) (hr2 r hr)
  have hcl : s_cl h8 (d + 19) := hcl.up e8 (Nat.le_refl _) (List.forall_mem_cons.mpr ⟨s_vo_r (by omega), (List.forall_mem_cons.mpr ⟨s_vo_r (by omega), (List.forall_mem_cons.mpr ⟨s_vo_r (by omega), (List.forall_mem_cons.mpr ⟨trivial, (List.forall_mem_cons.mpr ⟨trivial, (List.forall_mem_cons.mpr ⟨trivial, (fun _ z => nomatch z)⟩)⟩)⟩)⟩)⟩)⟩) (fun j a b => by omega)
  have hlo := hlo.up e8 (by omega)
  refine g_aload_n dX7_init_42 rfl (by rfl) ?_
  refine g_lconst (0) dX7_init_43 (by rfl) ?_
  refine g_putf' dX7_init_44 pX7_30 ho (by omega) (by exact Nat.le_of_ble_eq_true rfl) (by rfl) (by rfl) (fun h9 e9 => ?_)
  have ho : h9 d = .inr (5, [.ref (d + 1), .ref (d + 17), .ref (d + 18), .int (0), .int (0), .long (0)]) := s_up_at e9
  have ha1 := s_up_off e9 (by omega) ha1
  have ha17 := s_up_off e9 (by omega) ha17
  have ha18 := s_up_off e9 (by omega) ha18
  have hr2 : ∀ r, r < 15 → h9 (d + 2 + r) = _ := fun r hr => s_up_off e9 (by omega) (hr2 r hr)
  have hcl : s_cl h9 (d + 19) := hcl.up e9 (Nat.le_refl _) (List.forall_mem_cons.mpr ⟨s_vo_r (by omega), (List.forall_mem_cons.mpr ⟨s_vo_r (by omega), (List.forall_mem_cons.mpr ⟨s_vo_r (by omega), (List.forall_mem_cons.mpr ⟨trivial, (List.forall_mem_cons.mpr ⟨trivial, (List.forall_mem_cons.mpr ⟨trivial, (fun _ z => nomatch z)⟩)⟩)⟩)⟩)⟩)⟩) (fun j a b => by omega)
  have hlo := hlo.up e9 (by omega)
  refine g_vreturn dX7_init_47 rfl ?_
  exact ⟨rfl, rfl, hcl, ⟨ho, ha1.trans (s_mo_4 d), hr2, ha17, ha18⟩, hlo⟩
