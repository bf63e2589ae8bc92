/-! CONSTRUCTORS: the model -/
/-- the disk at the start -/
def d_ini : s_D := (d_put (d_put (d_add (d_add (d_add (d_add (d_add (d_add (x_rst ((fun _ _ => 0, fun _ => 0) : s_D) 20) 0 7 30) 1 9 42) 2 4 12) 3 12 50) 4 5 12) 5 3 2) 3 5 1) 3 4 2)
def pl_ini : s_Pl := (d_ini, (fun _ _ => 0, fun _ => 0), 0, fun _ => (fun _ _ => 0, fun _ => 0), 0, fun _ => 0, 0, 0, -1, [])
theorem d_ini_ok : d_ok d_ini 6 20 := by
  refine ⟨rfl, by omega, rfl, by omega, fun i hi => ?_⟩
  have h6 : i = 0 ∨ i = 1 ∨ i = 2 ∨ i = 3 ∨ i = 4 ∨ i = 5 := by omega
  rcases h6 with rfl | rfl | rfl | rfl | rfl | rfl
  · exact ⟨⟨7, rfl, by omega, by omega⟩, ⟨30, rfl, by omega⟩, ⟨0, rfl, by omega⟩, ⟨0, rfl, by omega⟩⟩
  · exact ⟨⟨9, rfl, by omega, by omega⟩, ⟨42, rfl, by omega⟩, ⟨0, rfl, by omega⟩, ⟨0, rfl, by omega⟩⟩
  · exact ⟨⟨4, rfl, by omega, by omega⟩, ⟨12, rfl, by omega⟩, ⟨0, rfl, by omega⟩, ⟨0, rfl, by omega⟩⟩
  · exact ⟨⟨12, rfl, by omega, by omega⟩, ⟨50, rfl, by omega⟩, ⟨0, rfl, by omega⟩, ⟨0, rfl, by omega⟩⟩
  · exact ⟨⟨5, rfl, by omega, by omega⟩, ⟨12, rfl, by omega⟩, ⟨0, rfl, by omega⟩, ⟨2, rfl, by omega⟩⟩
  · exact ⟨⟨3, rfl, by omega, by omega⟩, ⟨2, rfl, by omega⟩, ⟨0, rfl, by omega⟩, ⟨1, rfl, by omega⟩⟩
def m_I0 : Nat → Int32 := fun k => if k = 24 then -1 else 0

theorem c_X9_init {h : s_H} {d : Nat} (ho : h d = .inr (7, [.int 0, .null, .null, .int 0, .null, .int 0, .null, .null, .null, .int 0, .null, .int 0, .null, .null, .null, .int 0, .int 0, .int 0, .int 0, .int 0, .int 0, .int 0, .int 0, .int 0, .int 0])) (hcl : s_cl h (d + 1)) (hb : d + 21 ≤ s_big) : s_Mt TX9_init 20 2967 [.ref d] h (d + 1) (fun o h1 n1 => o = .inl none ∧ n1 = d + 21 ∧ s_cl h1 (d + 21) ∧ m_R h1 d pl_ini 0 ∧ s_lo h h1 d) := by
  refine s_Mt_of rfl (by decide) (by exact Nat.le_of_ble_eq_true rfl) ?_
  have hlo : s_lo h h d := s_lo.rf
  refine g_aload_n dX9_init_0 rfl (by rfl) ?_
  refine g_objInit dX9_init_1 wl_X9 wi_obj wc_obj (Nat.le_of_ble_eq_true rfl) ?_
  refine g_aload_n dX9_init_4 rfl (by rfl) ?_
  refine g_bipush (61) dX9_init_5 (by rfl) ?_
  refine g_newaI (N' := 61) dX9_init_7 wa_I rfl (by omega) (by omega) hcl (s_ent1 (by omega)) (s_vo1 (by omega)) (by omega) (by omega) (fun h1 e1 hcl => ?_)
  have ho := s_up_off e1 (by omega) ho
  have ha1 := s_up_at e1
  have hlo := hlo.up e1 (by omega)
  refine g_putF' dX9_init_9 pX9_9 rfl (fun q z => by cases z; rfl) ho (by omega) (by exact Nat.le_of_ble_eq_true rfl) (by rfl) (by rfl) (fun h2 e2 => ?_)
  have ho : h2 d = .inr (7, [.int 0, .ref (d + 1), .null, .int 0, .null, .int 0, .null, .null, .null, .int 0, .null, .int 0, .null, .null, .null, .int 0, .int 0, .int 0, .int 0, .int 0, .int 0, .int 0, .int 0, .int 0, .int 0]) := s_up_at e2
  have ha1 := s_up_off e2 (by omega) ha1
  have hcl : s_cl h2 (d + 2) := hcl.up e2 (Nat.le_refl _) (List.forall_mem_cons.mpr ⟨trivial, (List.forall_mem_cons.mpr ⟨s_vo_r (by omega), (List.forall_mem_cons.mpr ⟨trivial, (List.forall_mem_cons.mpr ⟨trivial, (List.forall_mem_cons.mpr ⟨trivial, (List.forall_mem_cons.mpr ⟨trivial, (List.forall_mem_cons.mpr ⟨trivial, (List.forall_mem_cons.mpr ⟨trivial, (List.forall_mem_cons.mpr ⟨trivial, (List.forall_mem_cons.mpr ⟨trivial, (List.forall_mem_cons.mpr ⟨trivial, (List.forall_mem_cons.mpr ⟨trivial, (List.forall_mem_cons.mpr ⟨trivial, (List.forall_mem_cons.mpr ⟨trivial, (List.forall_mem_cons.mpr ⟨trivial, (List.forall_mem_cons.mpr ⟨trivial, (List.forall_mem_cons.mpr ⟨trivial, (List.forall_mem_cons.mpr ⟨trivial, (List.forall_mem_cons.mpr ⟨trivial, (List.forall_mem_cons.mpr ⟨trivial, (List.forall_mem_cons.mpr ⟨trivial, (List.forall_mem_cons.mpr ⟨trivial, (List.forall_mem_cons.mpr ⟨trivial, (List.forall_mem_cons.mpr ⟨trivial, (List.forall_mem_cons.mpr ⟨trivial, (fun _ z => nomatch z)⟩)⟩)⟩)⟩)⟩)⟩)⟩)⟩)⟩)⟩)⟩)⟩)⟩)⟩)⟩)⟩)⟩)⟩)⟩)⟩)⟩)⟩)⟩)⟩)⟩) (fun j a b => by omega)
  have hlo := hlo.up e2 (by omega)
  refine g_aload_n dX9_init_12 rfl (by rfl) ?_
  refine g_bipush (10) dX9_init_13 (by rfl) ?_
  refine g_bipush (61) dX9_init_15 (by rfl) ?_
  refine g_mnaI (N' := 10) (K' := 61) dX9_init_17 wq_9 wa_I rfl rfl (by omega) (by omega) (by omega) hcl (s_ent1 (by omega)) (s_vo1 (by omega)) (by omega) (by omega) (fun h3 e3 hcl => ?_)
  have mv : ∀ {j : Nat} {o : s_O}, j < d + 2 → h2 j = o → h3 j = o := fun hj hz => by rw [e3]; exact (s_mn_lt hj).trans hz
  have ho := mv (by omega) ho
  have ha1 := mv (by omega) ha1
  have ha2 : h3 (d + 2) = s_mo 5 (d + 2) 10 := by rw [e3]; exact s_mn_0
  have hr3 : ∀ r, r < 10 → h3 (d + 3 + r) = (.inl (0, 61, .inl (fun _ => 0)) : s_O) := fun r hr => by rw [e3]; exact s_mn_1 (n := d + 2) hr
  have hlo := hlo.mn e3 (by omega)
  refine g_putF' dX9_init_21 pX9_15 rfl (fun q z => by cases z; rfl) ho (by omega) (by exact Nat.le_of_ble_eq_true rfl) (by rfl) (by rfl) (fun h4 e4 => ?_)
  have ho : h4 d = .inr (7, [.int 0, .ref (d + 1), .ref (d + 2), .int 0, .null, .int 0, .null, .null, .null, .int 0, .null, .int 0, .null, .null, .null, .int 0, .int 0, .int 0, .int 0, .int 0, .int 0, .int 0, .int 0, .int 0, .int 0]) := s_up_at e4
  have ha1 := s_up_off e4 (by omega) ha1
  have ha2 := s_up_off e4 (by omega) ha2
  have hr3 : ∀ r, r < 10 → h4 (d + 3 + r) = _ := fun r hr => s_up_off e4 (by omega) (hr3 r hr)
  have hcl : s_cl h4 (d + 13) := hcl.up e4 (Nat.le_refl _) (List.forall_mem_cons.mpr ⟨trivial, (List.forall_mem_cons.mpr ⟨s_vo_r (by omega), (List.forall_mem_cons.mpr ⟨s_vo_r (by omega), (List.forall_mem_cons.mpr ⟨trivial, (List.forall_mem_cons.mpr ⟨trivial, (List.forall_mem_cons.mpr ⟨trivial, (List.forall_mem_cons.mpr ⟨trivial, (List.forall_mem_cons.mpr ⟨trivial, (List.forall_mem_cons.mpr ⟨trivial, (List.forall_mem_cons.mpr ⟨trivial, (List.forall_mem_cons.mpr ⟨trivial, (List.forall_mem_cons.mpr ⟨trivial, (List.forall_mem_cons.mpr ⟨trivial, (List.forall_mem_cons.mpr ⟨trivial, (List.forall_mem_cons.mpr ⟨trivial, (List.forall_mem_cons.mpr ⟨trivial, (List.forall_mem_cons.mpr ⟨trivial, (List.forall_mem_cons.mpr ⟨trivial, (List.forall_mem_cons.mpr ⟨trivial, (List.forall_mem_cons.mpr ⟨trivial, (List.forall_mem_cons.mpr ⟨trivial, (List.forall_mem_cons.mpr ⟨trivial, (List.forall_mem_cons.mpr ⟨trivial, (List.forall_mem_cons.mpr ⟨trivial, (List.forall_mem_cons.mpr ⟨trivial, (fun _ z => nomatch z)⟩)⟩)⟩)⟩)⟩)⟩)⟩)⟩)⟩)⟩)⟩)⟩)⟩)⟩)⟩)⟩)⟩)⟩)⟩)⟩)⟩)⟩)⟩)⟩)⟩) (fun j a b => by omega)
  have hlo := hlo.up e4 (by omega)
  refine g_aload_n dX9_init_24 rfl (by rfl) ?_
  refine g_bipush (61) dX9_init_25 (by rfl) ?_
  refine g_newaI (N' := 61) dX9_init_27 wa_I rfl (by omega) (by omega) hcl (s_ent1 (by omega)) (s_vo1 (by omega)) (by omega) (by omega) (fun h5 e5 hcl => ?_)
  have ho := s_up_off e5 (by omega) ho
  have ha1 := s_up_off e5 (by omega) ha1
  have ha2 := s_up_off e5 (by omega) ha2
  have hr3 : ∀ r, r < 10 → h5 (d + 3 + r) = _ := fun r hr => s_up_off e5 (by omega) (hr3 r hr)
  have ha13 := s_up_at e5
  have hlo := hlo.up e5 (by omega)
  refine g_putF' dX9_init_29 pX9_18 rfl (fun q z => by cases z; rfl) ho (by omega) (by exact Nat.le_of_ble_eq_true rfl) (by rfl) (by rfl) (fun h6 e6 => ?_)
  have ho : h6 d = .inr (7, [.int 0, .ref (d + 1), .ref (d + 2), .int 0, .ref (d + 13), .int 0, .null, .null, .null, .int 0, .null, .int 0, .null, .null, .null, .int 0, .int 0, .int 0, .int 0, .int 0, .int 0, .int 0, .int 0, .int 0, .int 0]) := s_up_at e6
  have ha1 := s_up_off e6 (by omega) ha1
  have ha2 := s_up_off e6 (by omega) ha2
  have ha13 := s_up_off e6 (by omega) ha13
  have hr3 : ∀ r, r < 10 → h6 (d + 3 + r) = _ := fun r hr => s_up_off e6 (by omega) (hr3 r hr)
  have hcl : s_cl h6 (d + 14) := hcl.up e6 (Nat.le_refl _) (List.forall_mem_cons.mpr ⟨trivial, (List.forall_mem_cons.mpr ⟨s_vo_r (by omega), (List.forall_mem_cons.mpr ⟨s_vo_r (by omega), (List.forall_mem_cons.mpr ⟨trivial, (List.forall_mem_cons.mpr ⟨s_vo_r (by omega), (List.forall_mem_cons.mpr ⟨trivial, (List.forall_mem_cons.mpr ⟨trivial, (List.forall_mem_cons.mpr ⟨trivial, (List.forall_mem_cons.mpr ⟨trivial, (List.forall_mem_cons.mpr ⟨trivial, (List.forall_mem_cons.mpr ⟨trivial, (List.forall_mem_cons.mpr ⟨trivial, (List.forall_mem_cons.mpr ⟨trivial, (List.forall_mem_cons.mpr ⟨trivial, (List.forall_mem_cons.mpr ⟨trivial, (List.forall_mem_cons.mpr ⟨trivial, (List.forall_mem_cons.mpr ⟨trivial, (List.forall_mem_cons.mpr ⟨trivial, (List.forall_mem_cons.mpr ⟨trivial, (List.forall_mem_cons.mpr ⟨trivial, (List.forall_mem_cons.mpr ⟨trivial, (List.forall_mem_cons.mpr ⟨trivial, (List.forall_mem_cons.mpr ⟨trivial, (List.forall_mem_cons.mpr ⟨trivial, (List.forall_mem_cons.mpr ⟨trivial, (fun _ z => nomatch z)⟩)⟩)⟩)⟩)⟩)⟩)⟩)⟩)⟩)⟩)⟩)⟩)⟩)⟩)⟩)⟩)⟩)⟩)⟩)⟩)⟩)⟩)⟩)⟩)⟩) (fun j a b => by omega)
  have hlo := hlo.up e6 (by omega)
  refine g_aload_n dX9_init_32 rfl (by rfl) ?_
  refine g_bipush (61) dX9_init_33 (by rfl) ?_
  refine g_newaI (N' := 61) dX9_init_35 wa_I rfl (by omega) (by omega) hcl (s_ent1 (by omega)) (s_vo1 (by omega)) (by omega) (by omega) (fun h7 e7 hcl => ?_)
  have ho := s_up_off e7 (by omega) ho
  have ha1 := s_up_off e7 (by omega) ha1
  have ha2 := s_up_off e7 (by omega) ha2
  have ha13 := s_up_off e7 (by omega) ha13
  have hr3 : ∀ r, r < 10 → h7 (d + 3 + r) = _ := fun r hr => s_up_off e7 (by omega) (hr3 r hr)
  have ha14 := s_up_at e7
  have hlo := hlo.up e7 (by omega)
  refine g_putF' dX9_init_37 pX9_21 rfl (fun q z => by cases z; rfl) ho (by omega) (by exact Nat.le_of_ble_eq_true rfl) (by rfl) (by rfl) (fun h8 e8 => ?_)
  have ho : h8 d = .inr (7, [.int 0, .ref (d + 1), .ref (d + 2), .int 0, .ref (d + 13), .int 0, .ref (d + 14), .null, .null, .int 0, .null, .int 0, .null, .null, .null, .int 0, .int 0, .int 0, .int 0, .int 0, .int 0, .int 0, .int 0, .int 0, .int 0]) := s_up_at e8
  have ha1 := s_up_off e8 (by omega) ha1
  have ha2 := s_up_off e8 (by omega) ha2
  have ha13 := s_up_off e8 (by omega) ha13
  have ha14 := s_up_off e8 (by omega) ha14
  have hr3 : ∀ r, r < 10 → h8 (d + 3 + r) = _ := fun r hr => s_up_off e8 (by omega) (hr3 r hr)
  have hcl : s_cl h8 (d + 15) := hcl.up e8 (Nat.le_refl _) (List.forall_mem_cons.mpr ⟨trivial, (List.forall_mem_cons.mpr ⟨s_vo_r (by omega), (List.forall_mem_cons.mpr ⟨s_vo_r (by omega), (List.forall_mem_cons.mpr ⟨trivial, (List.forall_mem_cons.mpr ⟨s_vo_r (by omega), (List.forall_mem_cons.mpr ⟨trivial, (List.forall_mem_cons.mpr ⟨s_vo_r (by omega), (List.forall_mem_cons.mpr ⟨trivial, (List.forall_mem_cons.mpr ⟨trivial, (List.forall_mem_cons.mpr ⟨trivial, (List.forall_mem_cons.mpr ⟨trivial, (List.forall_mem_cons.mpr ⟨trivial, (List.forall_mem_cons.mpr ⟨trivial, (List.forall_mem_cons.mpr ⟨trivial, (List.forall_mem_cons.mpr ⟨trivial, (List.forall_mem_cons.mpr ⟨trivial, (List.forall_mem_cons.mpr ⟨trivial, (List.forall_mem_cons.mpr ⟨trivial, (List.forall_mem_cons.mpr ⟨trivial, (List.forall_mem_cons.mpr ⟨trivial, (List.forall_mem_cons.mpr ⟨trivial, (List.forall_mem_cons.mpr ⟨trivial, (List.forall_mem_cons.mpr ⟨trivial, (List.forall_mem_cons.mpr ⟨trivial, (List.forall_mem_cons.mpr ⟨trivial, (fun _ z => nomatch z)⟩)⟩)⟩)⟩)⟩)⟩)⟩)⟩)⟩)⟩)⟩)⟩)⟩)⟩)⟩)⟩)⟩)⟩)⟩)⟩)⟩)⟩)⟩)⟩)⟩) (fun j a b => by omega)
  have hlo := hlo.up e8 (by omega)
  refine g_aload_n dX9_init_40 rfl (by rfl) ?_
  refine g_bipush (61) dX9_init_41 (by rfl) ?_
  refine g_newaI (N' := 61) dX9_init_43 wa_I rfl (by omega) (by omega) hcl (s_ent1 (by omega)) (s_vo1 (by omega)) (by omega) (by omega) (fun h9 e9 hcl => ?_)
  have ho := s_up_off e9 (by omega) ho
  have ha1 := s_up_off e9 (by omega) ha1
  have ha2 := s_up_off e9 (by omega) ha2
  have ha13 := s_up_off e9 (by omega) ha13
  have ha14 := s_up_off e9 (by omega) ha14
  have hr3 : ∀ r, r < 10 → h9 (d + 3 + r) = _ := fun r hr => s_up_off e9 (by omega) (hr3 r hr)
  have ha15 := s_up_at e9
  have hlo := hlo.up e9 (by omega)
  refine g_putF' dX9_init_45 pX9_24 rfl (fun q z => by cases z; rfl) ho (by omega) (by exact Nat.le_of_ble_eq_true rfl) (by rfl) (by rfl) (fun h10 e10 => ?_)
  have ho : h10 d = .inr (7, [.int 0, .ref (d + 1), .ref (d + 2), .int 0, .ref (d + 13), .int 0, .ref (d + 14), .ref (d + 15), .null, .int 0, .null, .int 0, .null, .null, .null, .int 0, .int 0, .int 0, .int 0, .int 0, .int 0, .int 0, .int 0, .int 0, .int 0]) := s_up_at e10
  have ha1 := s_up_off e10 (by omega) ha1
  have ha2 := s_up_off e10 (by omega) ha2
  have ha13 := s_up_off e10 (by omega) ha13
  have ha14 := s_up_off e10 (by omega) ha14
  have ha15 := s_up_off e10 (by omega) ha15
  have hr3 : ∀ r, r < 10 → h10 (d + 3 + r) = _ := fun r hr => s_up_off e10 (by omega) (hr3 r hr)
  have hcl : s_cl h10 (d + 16) := hcl.up e10 (Nat.le_refl _) (List.forall_mem_cons.mpr ⟨trivial, (List.forall_mem_cons.mpr ⟨s_vo_r (by omega), (List.forall_mem_cons.mpr ⟨s_vo_r (by omega), (List.forall_mem_cons.mpr ⟨trivial, (List.forall_mem_cons.mpr ⟨s_vo_r (by omega), (List.forall_mem_cons.mpr ⟨trivial, (List.forall_mem_cons.mpr ⟨s_vo_r (by omega), (List.forall_mem_cons.mpr ⟨s_vo_r (by omega), (List.forall_mem_cons.mpr ⟨trivial, (List.forall_mem_cons.mpr ⟨trivial, (List.forall_mem_cons.mpr ⟨trivial, (List.forall_mem_cons.mpr ⟨trivial, (List.forall_mem_cons.mpr ⟨trivial, (List.forall_mem_cons.mpr ⟨trivial, (List.forall_mem_cons.mpr ⟨trivial, (List.forall_mem_cons.mpr ⟨trivial, (List.forall_mem_cons.mpr ⟨trivial, (List.forall_mem_cons.mpr ⟨trivial, (List.forall_mem_cons.mpr ⟨trivial, (List.forall_mem_cons.mpr ⟨trivial, (List.forall_mem_cons.mpr ⟨trivial, (List.forall_mem_cons.mpr ⟨trivial, (List.forall_mem_cons.mpr ⟨trivial, (List.forall_mem_cons.mpr ⟨trivial, (List.forall_mem_cons.mpr ⟨trivial, (fun _ z => nomatch z)⟩)⟩)⟩)⟩)⟩)⟩)⟩)⟩)⟩)⟩)⟩)⟩)⟩)⟩)⟩)⟩)⟩)⟩)⟩)⟩)⟩)⟩)⟩)⟩)⟩) (fun j a b => by omega)
  have hlo := hlo.up e10 (by omega)
  refine g_aload_n dX9_init_48 rfl (by rfl) ?_
  refine g_sipush (500) dX9_init_49 (by rfl) ?_
  refine g_newaI (N' := 500) dX9_init_52 wa_I rfl (by omega) (by omega) hcl (s_ent1 (by omega)) (s_vo1 (by omega)) (by omega) (by omega) (fun h11 e11 hcl => ?_)
  have ho := s_up_off e11 (by omega) ho
  have ha1 := s_up_off e11 (by omega) ha1
  have ha2 := s_up_off e11 (by omega) ha2
  have ha13 := s_up_off e11 (by omega) ha13
  have ha14 := s_up_off e11 (by omega) ha14
  have ha15 := s_up_off e11 (by omega) ha15
  have hr3 : ∀ r, r < 10 → h11 (d + 3 + r) = _ := fun r hr => s_up_off e11 (by omega) (hr3 r hr)
  have ha16 := s_up_at e11
  have hlo := hlo.up e11 (by omega)
  refine g_putF' dX9_init_54 pX9_27 rfl (fun q z => by cases z; rfl) ho (by omega) (by exact Nat.le_of_ble_eq_true rfl) (by rfl) (by rfl) (fun h12 e12 => ?_)
  have ho : h12 d = .inr (7, [.int 0, .ref (d + 1), .ref (d + 2), .int 0, .ref (d + 13), .int 0, .ref (d + 14), .ref (d + 15), .ref (d + 16), .int 0, .null, .int 0, .null, .null, .null, .int 0, .int 0, .int 0, .int 0, .int 0, .int 0, .int 0, .int 0, .int 0, .int 0]) := s_up_at e12
  have ha1 := s_up_off e12 (by omega) ha1
  have ha2 := s_up_off e12 (by omega) ha2
  have ha13 := s_up_off e12 (by omega) ha13
  have ha14 := s_up_off e12 (by omega) ha14
  have ha15 := s_up_off e12 (by omega) ha15
  have ha16 := s_up_off e12 (by omega) ha16
  have hr3 : ∀ r, r < 10 → h12 (d + 3 + r) = _ := fun r hr => s_up_off e12 (by omega) (hr3 r hr)
  have hcl : s_cl h12 (d + 17) := hcl.up e12 (Nat.le_refl _) (List.forall_mem_cons.mpr ⟨trivial, (List.forall_mem_cons.mpr ⟨s_vo_r (by omega), (List.forall_mem_cons.mpr ⟨s_vo_r (by omega), (List.forall_mem_cons.mpr ⟨trivial, (List.forall_mem_cons.mpr ⟨s_vo_r (by omega), (List.forall_mem_cons.mpr ⟨trivial, (List.forall_mem_cons.mpr ⟨s_vo_r (by omega), (List.forall_mem_cons.mpr ⟨s_vo_r (by omega), (List.forall_mem_cons.mpr ⟨s_vo_r (by omega), (List.forall_mem_cons.mpr ⟨trivial, (List.forall_mem_cons.mpr ⟨trivial, (List.forall_mem_cons.mpr ⟨trivial, (List.forall_mem_cons.mpr ⟨trivial, (List.forall_mem_cons.mpr ⟨trivial, (List.forall_mem_cons.mpr ⟨trivial, (List.forall_mem_cons.mpr ⟨trivial, (List.forall_mem_cons.mpr ⟨trivial, (List.forall_mem_cons.mpr ⟨trivial, (List.forall_mem_cons.mpr ⟨trivial, (List.forall_mem_cons.mpr ⟨trivial, (List.forall_mem_cons.mpr ⟨trivial, (List.forall_mem_cons.mpr ⟨trivial, (List.forall_mem_cons.mpr ⟨trivial, (List.forall_mem_cons.mpr ⟨trivial, (List.forall_mem_cons.mpr ⟨trivial, (fun _ z => nomatch z)⟩)⟩)⟩)⟩)⟩)⟩)⟩)⟩)⟩)⟩)⟩)⟩)⟩)⟩)⟩)⟩)⟩)⟩)⟩)⟩)⟩)⟩)⟩)⟩)⟩) (fun j a b => by omega)
  have hlo := hlo.up e12 (by omega)
  refine g_aload_n dX9_init_57 rfl (by rfl) ?_
  refine g_sipush (1300) dX9_init_58 (by rfl) ?_
  refine g_newaB (N' := 1300) dX9_init_61 wa_B rfl (by omega) (by omega) hcl (s_ent1 (by omega)) (s_vo1 (by omega)) (by omega) (by omega) (fun h13 e13 hcl => ?_)
  have ho := s_up_off e13 (by omega) ho
  have ha1 := s_up_off e13 (by omega) ha1
  have ha2 := s_up_off e13 (by omega) ha2
  have ha13 := s_up_off e13 (by omega) ha13
  have ha14 := s_up_off e13 (by omega) ha14
  have ha15 := s_up_off e13 (by omega) ha15
  have ha16 := s_up_off e13 (by omega) ha16
  have hr3 : ∀ r, r < 10 → h13 (d + 3 + r) = _ := fun r hr => s_up_off e13 (by omega) (hr3 r hr)
  have ha17 := s_up_at e13
  have hlo := hlo.up e13 (by omega)
  refine g_putF' dX9_init_63 pX9_30 rfl (fun q z => by cases z; rfl) ho (by omega) (by exact Nat.le_of_ble_eq_true rfl) (by rfl) (by rfl) (fun h14 e14 => ?_)
  have ho : h14 d = .inr (7, [.int 0, .ref (d + 1), .ref (d + 2), .int 0, .ref (d + 13), .int 0, .ref (d + 14), .ref (d + 15), .ref (d + 16), .int 0, .ref (d + 17), .int 0, .null, .null, .null, .int 0, .int 0, .int 0, .int 0, .int 0, .int 0, .int 0, .int 0, .int 0, .int 0]) := s_up_at e14
  have ha1 := s_up_off e14 (by omega) ha1
  have ha2 := s_up_off e14 (by omega) ha2
  have ha13 := s_up_off e14 (by omega) ha13
  have ha14 := s_up_off e14 (by omega) ha14
  have ha15 := s_up_off e14 (by omega) ha15
  have ha16 := s_up_off e14 (by omega) ha16
  have ha17 := s_up_off e14 (by omega) ha17
  have hr3 : ∀ r, r < 10 → h14 (d + 3 + r) = _ := fun r hr => s_up_off e14 (by omega) (hr3 r hr)
  have hcl : s_cl h14 (d + 18) := hcl.up e14 (Nat.le_refl _) (List.forall_mem_cons.mpr ⟨trivial, (List.forall_mem_cons.mpr ⟨s_vo_r (by omega), (List.forall_mem_cons.mpr ⟨s_vo_r (by omega), (List.forall_mem_cons.mpr ⟨trivial, (List.forall_mem_cons.mpr ⟨s_vo_r (by omega), (List.forall_mem_cons.mpr ⟨trivial, (List.forall_mem_cons.mpr ⟨s_vo_r (by omega), (List.forall_mem_cons.mpr ⟨s_vo_r (by omega), (List.forall_mem_cons.mpr ⟨s_vo_r (by omega), (List.forall_mem_cons.mpr ⟨trivial, (List.forall_mem_cons.mpr ⟨s_vo_r (by omega), (List.forall_mem_cons.mpr ⟨trivial, (List.forall_mem_cons.mpr ⟨trivial, (List.forall_mem_cons.mpr ⟨trivial, (List.forall_mem_cons.mpr ⟨trivial, (List.forall_mem_cons.mpr ⟨trivial, (List.forall_mem_cons.mpr ⟨trivial, (List.forall_mem_cons.mpr ⟨trivial, (List.forall_mem_cons.mpr ⟨trivial, (List.forall_mem_cons.mpr ⟨trivial, (List.forall_mem_cons.mpr ⟨trivial, (List.forall_mem_cons.mpr ⟨trivial, (List.forall_mem_cons.mpr ⟨trivial, (List.forall_mem_cons.mpr ⟨trivial, (List.forall_mem_cons.mpr ⟨trivial, (fun _ z => nomatch z)⟩)⟩)⟩)⟩)⟩)⟩)⟩)⟩)⟩)⟩)⟩)⟩)⟩)⟩)⟩)⟩)⟩)⟩)⟩)⟩)⟩)⟩)⟩)⟩)⟩) (fun j a b => by omega)
  have hlo := hlo.up e14 (by omega)
  refine g_aload_n dX9_init_66 rfl (by rfl) ?_
  refine g_bipush (101) dX9_init_67 (by rfl) ?_
  refine g_newaI (N' := 101) dX9_init_69 wa_I rfl (by omega) (by omega) hcl (s_ent1 (by omega)) (s_vo1 (by omega)) (by omega) (by omega) (fun h15 e15 hcl => ?_)
  have ho := s_up_off e15 (by omega) ho
  have ha1 := s_up_off e15 (by omega) ha1
  have ha2 := s_up_off e15 (by omega) ha2
  have ha13 := s_up_off e15 (by omega) ha13
  have ha14 := s_up_off e15 (by omega) ha14
  have ha15 := s_up_off e15 (by omega) ha15
  have ha16 := s_up_off e15 (by omega) ha16
  have ha17 := s_up_off e15 (by omega) ha17
  have hr3 : ∀ r, r < 10 → h15 (d + 3 + r) = _ := fun r hr => s_up_off e15 (by omega) (hr3 r hr)
  have ha18 := s_up_at e15
  have hlo := hlo.up e15 (by omega)
  refine g_putF' dX9_init_71 pX9_34 rfl (fun q z => by cases z; rfl) ho (by omega) (by exact Nat.le_of_ble_eq_true rfl) (by rfl) (by rfl) (fun h16 e16 => ?_)
  have ho : h16 d = .inr (7, [.int 0, .ref (d + 1), .ref (d + 2), .int 0, .ref (d + 13), .int 0, .ref (d + 14), .ref (d + 15), .ref (d + 16), .int 0, .ref (d + 17), .int 0, .ref (d + 18), .null, .null, .int 0, .int 0, .int 0, .int 0, .int 0, .int 0, .int 0, .int 0, .int 0, .int 0]) := s_up_at e16
  have ha1 := s_up_off e16 (by omega) ha1
  have ha2 := s_up_off e16 (by omega) ha2
  have ha13 := s_up_off e16 (by omega) ha13
  have ha14 := s_up_off e16 (by omega) ha14
  have ha15 := s_up_off e16 (by omega) ha15
  have ha16 := s_up_off e16 (by omega) ha16
  have ha17 := s_up_off e16 (by omega) ha17
  have ha18 := s_up_off e16 (by omega) ha18
  have hr3 : ∀ r, r < 10 → h16 (d + 3 + r) = _ := fun r hr => s_up_off e16 (by omega) (hr3 r hr)
  have hcl : s_cl h16 (d + 19) := hcl.up e16 (Nat.le_refl _) (List.forall_mem_cons.mpr ⟨trivial, (List.forall_mem_cons.mpr ⟨s_vo_r (by omega), (List.forall_mem_cons.mpr ⟨s_vo_r (by omega), (List.forall_mem_cons.mpr ⟨trivial, (List.forall_mem_cons.mpr ⟨s_vo_r (by omega), (List.forall_mem_cons.mpr ⟨trivial, (List.forall_mem_cons.mpr ⟨s_vo_r (by omega), (List.forall_mem_cons.mpr ⟨s_vo_r (by omega), (List.forall_mem_cons.mpr ⟨s_vo_r (by omega), (List.forall_mem_cons.mpr ⟨trivial, (List.forall_mem_cons.mpr ⟨s_vo_r (by omega), (List.forall_mem_cons.mpr ⟨trivial, (List.forall_mem_cons.mpr ⟨s_vo_r (by omega), (List.forall_mem_cons.mpr ⟨trivial, (List.forall_mem_cons.mpr ⟨trivial, (List.forall_mem_cons.mpr ⟨trivial, (List.forall_mem_cons.mpr ⟨trivial, (List.forall_mem_cons.mpr ⟨trivial, (List.forall_mem_cons.mpr ⟨trivial, (List.forall_mem_cons.mpr ⟨trivial, (List.forall_mem_cons.mpr ⟨trivial, (List.forall_mem_cons.mpr ⟨trivial, (List.forall_mem_cons.mpr ⟨trivial, (List.forall_mem_cons.mpr ⟨trivial, (List.forall_mem_cons.mpr ⟨trivial, (fun _ z => nomatch z)⟩)⟩)⟩)⟩)⟩)⟩)⟩)⟩)⟩)⟩)⟩)⟩)⟩)⟩)⟩)⟩)⟩)⟩)⟩)⟩)⟩)⟩)⟩)⟩)⟩) (fun j a b => by omega)
  have hlo := hlo.up e16 (by omega)
  refine g_aload_n dX9_init_74 rfl (by rfl) ?_
  refine g_bipush (101) dX9_init_75 (by rfl) ?_
  refine g_newaI (N' := 101) dX9_init_77 wa_I rfl (by omega) (by omega) hcl (s_ent1 (by omega)) (s_vo1 (by omega)) (by omega) (by omega) (fun h17 e17 hcl => ?_)
  have ho := s_up_off e17 (by omega) ho
  have ha1 := s_up_off e17 (by omega) ha1
  have ha2 := s_up_off e17 (by omega) ha2
  have ha13 := s_up_off e17 (by omega) ha13
  have ha14 := s_up_off e17 (by omega) ha14
  have ha15 := s_up_off e17 (by omega) ha15
  have ha16 := s_up_off e17 (by omega) ha16
  have ha17 := s_up_off e17 (by omega) ha17
  have ha18 := s_up_off e17 (by omega) ha18
  have hr3 : ∀ r, r < 10 → h17 (d + 3 + r) = _ := fun r hr => s_up_off e17 (by omega) (hr3 r hr)
  have ha19 := s_up_at e17
  have hlo := hlo.up e17 (by omega)
  refine g_putF' dX9_init_79 pX9_37 rfl (fun q z => by cases z; rfl) ho (by omega) (by exact Nat.le_of_ble_eq_true rfl) (by rfl) (by rfl) (fun h18 e18 => ?_)
  have ho : h18 d = .inr (7, [.int 0, .ref (d + 1), .ref (d + 2), .int 0, .ref (d + 13), .int 0, .ref (d + 14), .ref (d + 15), .ref (d + 16), .int 0, .ref (d + 17), .int 0, .ref (d + 18), .ref (d + 19), .null, .int 0, .int 0, .int 0, .int 0, .int 0, .int 0, .int 0, .int 0, .int 0, .int 0]) := s_up_at e18
  have ha1 := s_up_off e18 (by omega) ha1
  have ha2 := s_up_off e18 (by omega) ha2
  have ha13 := s_up_off e18 (by omega) ha13
  have ha14 := s_up_off e18 (by omega) ha14
  have ha15 := s_up_off e18 (by omega) ha15
  have ha16 := s_up_off e18 (by omega) ha16
  have ha17 := s_up_off e18 (by omega) ha17
  have ha18 := s_up_off e18 (by omega) ha18
  have ha19 := s_up_off e18 (by omega) ha19
  have hr3 : ∀ r, r < 10 → h18 (d + 3 + r) = _ := fun r hr => s_up_off e18 (by omega) (hr3 r hr)
  have hcl : s_cl h18 (d + 20) := hcl.up e18 (Nat.le_refl _) (List.forall_mem_cons.mpr ⟨trivial, (List.forall_mem_cons.mpr ⟨s_vo_r (by omega), (List.forall_mem_cons.mpr ⟨s_vo_r (by omega), (List.forall_mem_cons.mpr ⟨trivial, (List.forall_mem_cons.mpr ⟨s_vo_r (by omega), (List.forall_mem_cons.mpr ⟨trivial, (List.forall_mem_cons.mpr ⟨s_vo_r (by omega), (List.forall_mem_cons.mpr ⟨s_vo_r (by omega), (List.forall_mem_cons.mpr ⟨s_vo_r (by omega), (List.forall_mem_cons.mpr ⟨trivial, (List.forall_mem_cons.mpr ⟨s_vo_r (by omega), (List.forall_mem_cons.mpr ⟨trivial, (List.forall_mem_cons.mpr ⟨s_vo_r (by omega), (List.forall_mem_cons.mpr ⟨s_vo_r (by omega), (List.forall_mem_cons.mpr ⟨trivial, (List.forall_mem_cons.mpr ⟨trivial, (List.forall_mem_cons.mpr ⟨trivial, (List.forall_mem_cons.mpr ⟨trivial, (List.forall_mem_cons.mpr ⟨trivial, (List.forall_mem_cons.mpr ⟨trivial, (List.forall_mem_cons.mpr ⟨trivial, (List.forall_mem_cons.mpr ⟨trivial, (List.forall_mem_cons.mpr ⟨trivial, (List.forall_mem_cons.mpr ⟨trivial, (List.forall_mem_cons.mpr ⟨trivial, (fun _ z => nomatch z)⟩)⟩)⟩)⟩)⟩)⟩)⟩)⟩)⟩)⟩)⟩)⟩)⟩)⟩)⟩)⟩)⟩)⟩)⟩)⟩)⟩)⟩)⟩)⟩)⟩) (fun j a b => by omega)
  have hlo := hlo.up e18 (by omega)
  refine g_aload_n dX9_init_82 rfl (by rfl) ?_
  refine g_bipush (101) dX9_init_83 (by rfl) ?_
  refine g_newaI (N' := 101) dX9_init_85 wa_I rfl (by omega) (by omega) hcl (s_ent1 (by omega)) (s_vo1 (by omega)) (by omega) (by omega) (fun h19 e19 hcl => ?_)
  have ho := s_up_off e19 (by omega) ho
  have ha1 := s_up_off e19 (by omega) ha1
  have ha2 := s_up_off e19 (by omega) ha2
  have ha13 := s_up_off e19 (by omega) ha13
  have ha14 := s_up_off e19 (by omega) ha14
  have ha15 := s_up_off e19 (by omega) ha15
  have ha16 := s_up_off e19 (by omega) ha16
  have ha17 := s_up_off e19 (by omega) ha17
  have ha18 := s_up_off e19 (by omega) ha18
  have ha19 := s_up_off e19 (by omega) ha19
  have hr3 : ∀ r, r < 10 → h19 (d + 3 + r) = _ := fun r hr => s_up_off e19 (by omega) (hr3 r hr)
  have ha20 := s_up_at e19
  have hlo := hlo.up e19 (by omega)
  refine g_putF' dX9_init_87 pX9_40 rfl (fun q z => by cases z; rfl) ho (by omega) (by exact Nat.le_of_ble_eq_true rfl) (by rfl) (by rfl) (fun h20 e20 => ?_)
  have ho : h20 d = .inr (7, [.int 0, .ref (d + 1), .ref (d + 2), .int 0, .ref (d + 13), .int 0, .ref (d + 14), .ref (d + 15), .ref (d + 16), .int 0, .ref (d + 17), .int 0, .ref (d + 18), .ref (d + 19), .ref (d + 20), .int 0, .int 0, .int 0, .int 0, .int 0, .int 0, .int 0, .int 0, .int 0, .int 0]) := s_up_at e20
  have ha1 := s_up_off e20 (by omega) ha1
  have ha2 := s_up_off e20 (by omega) ha2
  have ha13 := s_up_off e20 (by omega) ha13
  have ha14 := s_up_off e20 (by omega) ha14
  have ha15 := s_up_off e20 (by omega) ha15
  have ha16 := s_up_off e20 (by omega) ha16
  have ha17 := s_up_off e20 (by omega) ha17
  have ha18 := s_up_off e20 (by omega) ha18
  have ha19 := s_up_off e20 (by omega) ha19
  have ha20 := s_up_off e20 (by omega) ha20
  have hr3 : ∀ r, r < 10 → h20 (d + 3 + r) = _ := fun r hr => s_up_off e20 (by omega) (hr3 r hr)
  have hcl : s_cl h20 (d + 21) := hcl.up e20 (Nat.le_refl _) (List.forall_mem_cons.mpr ⟨trivial, (List.forall_mem_cons.mpr ⟨s_vo_r (by omega), (List.forall_mem_cons.mpr ⟨s_vo_r (by omega), (List.forall_mem_cons.mpr ⟨trivial, (List.forall_mem_cons.mpr ⟨s_vo_r (by omega), (List.forall_mem_cons.mpr ⟨trivial, (List.forall_mem_cons.mpr ⟨s_vo_r (by omega), (List.forall_mem_cons.mpr ⟨s_vo_r (by omega), (List.forall_mem_cons.mpr ⟨s_vo_r (by omega), (List.forall_mem_cons.mpr ⟨trivial, (List.forall_mem_cons.mpr ⟨s_vo_r (by omega), (List.forall_mem_cons.mpr ⟨trivial, (List.forall_mem_cons.mpr ⟨s_vo_r (by omega), (List.forall_mem_cons.mpr ⟨s_vo_r (by omega), (List.forall_mem_cons.mpr ⟨s_vo_r (by omega), (List.forall_mem_cons.mpr ⟨trivial, (List.forall_mem_cons.mpr ⟨trivial, (List.forall_mem_cons.mpr ⟨trivial, (List.forall_mem_cons.mpr ⟨trivial, (List.forall_mem_cons.mpr ⟨trivial, (List.forall_mem_cons.mpr ⟨trivial, (List.forall_mem_cons.mpr ⟨trivial, (List.forall_mem_cons.mpr ⟨trivial, (List.forall_mem_cons.mpr ⟨trivial, (List.forall_mem_cons.mpr ⟨trivial, (fun _ z => nomatch z)⟩)⟩)⟩)⟩)⟩)⟩)⟩)⟩)⟩)⟩)⟩)⟩)⟩)⟩)⟩)⟩)⟩)⟩)⟩)⟩)⟩)⟩)⟩)⟩)⟩) (fun j a b => by omega)
  have hlo := hlo.up e20 (by omega)
  refine g_aload_n dX9_init_90 rfl (by rfl) ?_
  refine g_iconst (-1) dX9_init_91 (by rfl) ?_
  refine g_putf' dX9_init_92 pX9_43 ho (by omega) (by exact Nat.le_of_ble_eq_true rfl) (by rfl) (by rfl) (fun h21 e21 => ?_)
  have ho : h21 d = .inr (7, [.int 0, .ref (d + 1), .ref (d + 2), .int 0, .ref (d + 13), .int 0, .ref (d + 14), .ref (d + 15), .ref (d + 16), .int 0, .ref (d + 17), .int 0, .ref (d + 18), .ref (d + 19), .ref (d + 20), .int 0, .int 0, .int 0, .int 0, .int 0, .int 0, .int 0, .int 0, .int 0, .int (-1)]) := s_up_at e21
  have ha1 := s_up_off e21 (by omega) ha1
  have ha2 := s_up_off e21 (by omega) ha2
  have ha13 := s_up_off e21 (by omega) ha13
  have ha14 := s_up_off e21 (by omega) ha14
  have ha15 := s_up_off e21 (by omega) ha15
  have ha16 := s_up_off e21 (by omega) ha16
  have ha17 := s_up_off e21 (by omega) ha17
  have ha18 := s_up_off e21 (by omega) ha18
  have ha19 := s_up_off e21 (by omega) ha19
  have ha20 := s_up_off e21 (by omega) ha20
  have hr3 : ∀ r, r < 10 → h21 (d + 3 + r) = _ := fun r hr => s_up_off e21 (by omega) (hr3 r hr)
  have hcl : s_cl h21 (d + 21) := hcl.up e21 (Nat.le_refl _) (List.forall_mem_cons.mpr ⟨trivial, (List.forall_mem_cons.mpr ⟨s_vo_r (by omega), (List.forall_mem_cons.mpr ⟨s_vo_r (by omega), (List.forall_mem_cons.mpr ⟨trivial, (List.forall_mem_cons.mpr ⟨s_vo_r (by omega), (List.forall_mem_cons.mpr ⟨trivial, (List.forall_mem_cons.mpr ⟨s_vo_r (by omega), (List.forall_mem_cons.mpr ⟨s_vo_r (by omega), (List.forall_mem_cons.mpr ⟨s_vo_r (by omega), (List.forall_mem_cons.mpr ⟨trivial, (List.forall_mem_cons.mpr ⟨s_vo_r (by omega), (List.forall_mem_cons.mpr ⟨trivial, (List.forall_mem_cons.mpr ⟨s_vo_r (by omega), (List.forall_mem_cons.mpr ⟨s_vo_r (by omega), (List.forall_mem_cons.mpr ⟨s_vo_r (by omega), (List.forall_mem_cons.mpr ⟨trivial, (List.forall_mem_cons.mpr ⟨trivial, (List.forall_mem_cons.mpr ⟨trivial, (List.forall_mem_cons.mpr ⟨trivial, (List.forall_mem_cons.mpr ⟨trivial, (List.forall_mem_cons.mpr ⟨trivial, (List.forall_mem_cons.mpr ⟨trivial, (List.forall_mem_cons.mpr ⟨trivial, (List.forall_mem_cons.mpr ⟨trivial, (List.forall_mem_cons.mpr ⟨trivial, (fun _ z => nomatch z)⟩)⟩)⟩)⟩)⟩)⟩)⟩)⟩)⟩)⟩)⟩)⟩)⟩)⟩)⟩)⟩)⟩)⟩)⟩)⟩)⟩)⟩)⟩)⟩)⟩) (fun j a b => by omega)
  have hlo := hlo.up e21 (by omega)
  refine g_aload_n dX9_init_95 rfl (by rfl) ?_
  refine g_bipush (20) dX9_init_96 (by rfl) ?_
  have hP : m_pl h21 d m_I0 (fun _ => 0) (fun _ => 0) (fun _ _ => 0) (fun _ => 0) (fun _ => 0) := ⟨⟨ho, ha1⟩, ⟨id, ⟨_, ha2, fun i hi => (if_pos hi).trans (congrArg some (show d + 2 + 1 + i = d + 3 + i by omega))⟩, fun i hi => hi, fun i j _ _ z => z, hr3⟩, ha13, ⟨_, ha14⟩, ⟨_, ha15⟩, ha16, ha17, ⟨_, _, _, ha18, ha19, ha20⟩⟩
  clear ha1 ha2 hr3 ha13 ha14 ha15 ha16 ha17 ha18 ha19 ha20
  obtain ⟨m, hmd⟩ : ∃ m, m = d := ⟨d, rfl⟩
  subst hmd
  have hn : m + 21 ≤ m + 21 := Nat.le_refl _
  have hM := hP.1
  have hm := hM.1
  have hT := hP.2.2.2.2.2.2.2
  have hoff : s_off h21 h21 (m + 1) (m + 2) := s_off.rf
  refine g_callV_p (c_X9_start hM hn 20) dX9_init_98 (mX9_start) rfl lX9_47 iX9_start vX9_start (by decide) (by omega) (by exact hm) rfl rfl rfl rfl (Nat.le_of_ble_eq_true rfl) (fun v9 h9 z9 => ?_)
  obtain ⟨rfl, hM, qoff⟩ := z9
  have hT := hT.off qoff (by omega)
  have hP := hP.q (qoff.wide (a' := m) (b' := m + 2) (by omega) (by omega)).l2 hM hT
  have hoff := hoff.trans qoff
  have hm := hM.1
  have hw := hM.2
  have he := m_D_st (w := fun _ => 0) (cap := 20) (σ := ((fun _ _ => 0, fun _ => 0) : s_D))
  refine g_aload_n dX9_init_101 rfl (by rfl) ?_
  refine g_bipush 7 dX9_init_102 (by rfl) ?_
  refine g_bipush 30 dX9_init_104 (by rfl) ?_
  refine g_callV_p (c_X9_add hM hn (cnt := 0) (show _ = nI 0 from he.1 0 (by omega)) (by omega) 7 30) dX9_init_106 (mX9_add) rfl lX9_51 iX9_add vX9_add (by decide) (by omega) (by exact hm) rfl rfl rfl rfl (Nat.le_of_ble_eq_true rfl) (fun v9 h9 z9 => ?_)
  obtain ⟨rfl, hM, qoff⟩ := z9
  have hT := hT.off qoff (by omega)
  have hP := hP.q (qoff.wide (a' := m) (b' := m + 2) (by omega) (by omega)).l2 hM hT
  have hoff := hoff.trans qoff
  have hm := hM.1
  have hw := hM.2
  have he := d_eq.tr (m_D_add (cnt := 0) (x := 7) (y := 30)) he.add
  refine g_istore_n dX9_init_109 rfl (by decide) ?_
  refine g_aload_n dX9_init_110 rfl (by rfl) ?_
  refine g_bipush 9 dX9_init_111 (by rfl) ?_
  refine g_bipush 42 dX9_init_113 (by rfl) ?_
  refine g_callV_p (c_X9_add hM hn (cnt := 1) (show _ = nI 1 from he.1 0 (by omega)) (by omega) 9 42) dX9_init_115 (mX9_add) rfl lX9_51 iX9_add vX9_add (by decide) (by omega) (by exact hm) rfl rfl rfl rfl (Nat.le_of_ble_eq_true rfl) (fun v9 h9 z9 => ?_)
  obtain ⟨rfl, hM, qoff⟩ := z9
  have hT := hT.off qoff (by omega)
  have hP := hP.q (qoff.wide (a' := m) (b' := m + 2) (by omega) (by omega)).l2 hM hT
  have hoff := hoff.trans qoff
  have hm := hM.1
  have hw := hM.2
  have he := d_eq.tr (m_D_add (cnt := 1) (x := 9) (y := 42)) he.add
  refine g_istore_n dX9_init_118 rfl (by decide) ?_
  refine g_aload_n dX9_init_119 rfl (by rfl) ?_
  refine g_iconst 4 dX9_init_120 (by rfl) ?_
  refine g_bipush 12 dX9_init_121 (by rfl) ?_
  refine g_callV_p (c_X9_add hM hn (cnt := 2) (show _ = nI 2 from he.1 0 (by omega)) (by omega) 4 12) dX9_init_123 (mX9_add) rfl lX9_51 iX9_add vX9_add (by decide) (by omega) (by exact hm) rfl rfl rfl rfl (Nat.le_of_ble_eq_true rfl) (fun v9 h9 z9 => ?_)
  obtain ⟨rfl, hM, qoff⟩ := z9
  have hT := hT.off qoff (by omega)
  have hP := hP.q (qoff.wide (a' := m) (b' := m + 2) (by omega) (by omega)).l2 hM hT
  have hoff := hoff.trans qoff
  have hm := hM.1
  have hw := hM.2
  have he := d_eq.tr (m_D_add (cnt := 2) (x := 4) (y := 12)) he.add
  refine g_istore_n dX9_init_126 rfl (by decide) ?_
  refine g_aload_n dX9_init_127 rfl (by rfl) ?_
  refine g_bipush 12 dX9_init_128 (by rfl) ?_
  refine g_bipush 50 dX9_init_130 (by rfl) ?_
  refine g_callV_p (c_X9_add hM hn (cnt := 3) (show _ = nI 3 from he.1 0 (by omega)) (by omega) 12 50) dX9_init_132 (mX9_add) rfl lX9_51 iX9_add vX9_add (by decide) (by omega) (by exact hm) rfl rfl rfl rfl (Nat.le_of_ble_eq_true rfl) (fun v9 h9 z9 => ?_)
  obtain ⟨rfl, hM, qoff⟩ := z9
  have hT := hT.off qoff (by omega)
  have hP := hP.q (qoff.wide (a' := m) (b' := m + 2) (by omega) (by omega)).l2 hM hT
  have hoff := hoff.trans qoff
  have hm := hM.1
  have hw := hM.2
  have he := d_eq.tr (m_D_add (cnt := 3) (x := 12) (y := 50)) he.add
  refine g_istore_n dX9_init_135 rfl (by decide) ?_
  refine g_aload_n dX9_init_136 rfl (by rfl) ?_
  refine g_iconst 5 dX9_init_137 (by rfl) ?_
  refine g_bipush 12 dX9_init_138 (by rfl) ?_
  refine g_callV_p (c_X9_add hM hn (cnt := 4) (show _ = nI 4 from he.1 0 (by omega)) (by omega) 5 12) dX9_init_140 (mX9_add) rfl lX9_51 iX9_add vX9_add (by decide) (by omega) (by exact hm) rfl rfl rfl rfl (Nat.le_of_ble_eq_true rfl) (fun v9 h9 z9 => ?_)
  obtain ⟨rfl, hM, qoff⟩ := z9
  have hT := hT.off qoff (by omega)
  have hP := hP.q (qoff.wide (a' := m) (b' := m + 2) (by omega) (by omega)).l2 hM hT
  have hoff := hoff.trans qoff
  have hm := hM.1
  have hw := hM.2
  have he := d_eq.tr (m_D_add (cnt := 4) (x := 5) (y := 12)) he.add
  refine g_istore_n dX9_init_143 rfl (by decide) ?_
  refine g_aload_n dX9_init_144 rfl (by rfl) ?_
  refine g_iconst 3 dX9_init_145 (by rfl) ?_
  refine g_iconst 2 dX9_init_146 (by rfl) ?_
  refine g_callV_p (c_X9_add hM hn (cnt := 5) (show _ = nI 5 from he.1 0 (by omega)) (by omega) 3 2) dX9_init_147 (mX9_add) rfl lX9_51 iX9_add vX9_add (by decide) (by omega) (by exact hm) rfl rfl rfl rfl (Nat.le_of_ble_eq_true rfl) (fun v9 h9 z9 => ?_)
  obtain ⟨rfl, hM, qoff⟩ := z9
  have hT := hT.off qoff (by omega)
  have hP := hP.q (qoff.wide (a' := m) (b' := m + 2) (by omega) (by omega)).l2 hM hT
  have hoff := hoff.trans qoff
  have hm := hM.1
  have hw := hM.2
  have he := d_eq.tr (m_D_add (cnt := 5) (x := 3) (y := 2)) he.add
  refine g_istore_n dX9_init_150 rfl (by decide) ?_
  refine g_aload_n dX9_init_151 rfl (by rfl) ?_
  refine g_iconst (nI 5) dX9_init_152 (by rfl) ?_
  refine g_iconst (nI 3) dX9_init_153 (by rfl) ?_
  refine g_iconst 1 dX9_init_154 (by rfl) ?_
  refine g_callV_p (c_X9_put hM hn 5 3 (by omega) 1) dX9_init_155 (mX9_put) rfl lX9_55 iX9_put vX9_put (by decide) (by omega) (by exact hm) rfl rfl rfl rfl (Nat.le_of_ble_eq_true rfl) (fun v9 h9 z9 => ?_)
  obtain ⟨rfl, hM, qoff⟩ := z9
  have hT := hT.off qoff (by omega)
  have hP := hP.q (qoff.wide (a' := m) (b' := m + 2) (by omega) (by omega)).l2 hM hT
  have hoff := hoff.trans qoff
  have hm := hM.1
  have hw := hM.2
  have he := d_eq.tr (m_D_put (i := 5) (f := 3) (x := 1) (by omega)) (he.put (f := 3) (i := 5) (x := 1) (by omega))
  refine g_aload_n dX9_init_158 rfl (by rfl) ?_
  refine g_iconst (nI 4) dX9_init_159 (by rfl) ?_
  refine g_iconst (nI 3) dX9_init_160 (by rfl) ?_
  refine g_iconst 2 dX9_init_161 (by rfl) ?_
  refine g_callV_p (c_X9_put hM hn 4 3 (by omega) 2) dX9_init_162 (mX9_put) rfl lX9_55 iX9_put vX9_put (by decide) (by omega) (by exact hm) rfl rfl rfl rfl (Nat.le_of_ble_eq_true rfl) (fun v9 h9 z9 => ?_)
  obtain ⟨rfl, hM, qoff⟩ := z9
  have hT := hT.off qoff (by omega)
  have hP := hP.q (qoff.wide (a' := m) (b' := m + 2) (by omega) (by omega)).l2 hM hT
  have hoff := hoff.trans qoff
  have hm := hM.1
  have hw := hM.2
  have he := d_eq.tr (m_D_put (i := 4) (f := 3) (x := 2) (by omega)) (he.put (f := 3) (i := 4) (x := 2) (by omega))
  refine g_vreturn dX9_init_165 rfl ?_
  refine ⟨rfl, rfl, fun i hi => ?_, ?_, fun j hj => (hoff j (by omega)).trans (hlo j hj)⟩
  · by_cases z : i = m + 1
    · rw [z, hw]
      trivial
    · rw [hoff i (by omega)]
      exact hcl i hi
  · exact ⟨_, _, _, _, _, _, hP, rfl, ⟨6, 20, d_ini_ok, he⟩, ⟨rfl, Or.inl rfl⟩, ⟨Nat.zero_le _, rfl, fun i hi => absurd hi (Nat.not_lt_zero i)⟩, ⟨Nat.zero_le _, rfl, fun i hi => absurd hi (Nat.not_lt_zero i)⟩, ⟨rfl, rfl⟩, Nat.zero_le _, rfl, fun i hi => absurd hi (Nat.not_lt_zero i)⟩
