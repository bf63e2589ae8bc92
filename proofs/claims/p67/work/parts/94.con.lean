/-! CONSTRUCTORS -/
theorem s_lvs_vo {l : List (Nat × Value)} {n : Nat} (h : ∀ q ∈ l, s_vo n q.2) : ∀ i v, s_lvs l i = some v → s_vo n v := by
  intro i v z
  unfold s_lvs at z
  obtain ⟨q, hq, rfl⟩ := Option.map_eq_some_iff.mp z
  exact h q (List.mem_of_find?_eq_some hq)
theorem s_vo1 {d n : Nat} (h : d < n) : ∀ v ∈ [Value.ref d], s_vo n v := List.forall_mem_cons.mpr ⟨Or.inl h, fun _ z => nomatch z⟩
theorem s_ent1 {d n : Nat} (h : d < n) : ∀ i v, s_ent [Value.ref d] i = some v → s_vo n v := s_lvs_vo (l := [(0, .ref d)]) (List.forall_mem_cons.mpr ⟨Or.inl h, fun _ z => nomatch z⟩)
/-- what lies below a number is untouched -/
def s_lo (h h1 : s_H) (d : Nat) : Prop := ∀ j, j < d → h1 j = h j
theorem s_lo.rf {h : s_H} {d : Nat} : s_lo h h d := fun _ _ => rfl
theorem s_lo.up {h h1 h2 : s_H} {d i : Nat} {o : s_O} (q : s_lo h h1 d) (e : h2 = s_up h1 i o) (hi : d ≤ i) : s_lo h h2 d := fun j hj => by
  rw [e, s_up_ne h1 o (by omega)]
  exact q j hj
theorem g_putF' {T : s_T} {Φ : s_P} {pc : Nat} {lv : s_V} {st : List Value} {h : s_H} {n kc ks : Nat} {a ci : Nat} {fs : List Value} {idx q0 : Nat} {v : Value} {t : FieldType} (hd : decode T.2.1 pc = .ok (.putfield idx, 3)) (hw : s_pw T.1.cls idx ci q0 t true) (hini : T.1.name = "<init>") (hcls : ∀ q, vwCl[ci]? = some q → T.1.cls = (q.2.1 q0).1) (ho : h a = .inr (ci, fs)) (ha : a < n) (hl : q0 < fs.length) (hn : narrow t v = v) (hf : fits t v = true)
    (k : ∀ h1, h1 = s_up h a (.inr (ci, fs.set q0 v)) → s_G T Φ (pc + 3) lv st h1 n kc ks) : s_G T Φ pc lv (v :: .ref a :: st) h n kc ks := g_putF hd hw hini hcls ho ha hl hn hf (k _ rfl)
theorem wi_obj : Cond.instanceMethod Lib.objectInit ∈ s_WL := s_WL_of 57 (by decide +kernel) rfl
theorem wc_obj : Cond.code Lib.objectInit ⟨#[0xb1]⟩ 1 none ∈ s_WL := s_WL_of 58 (by decide +kernel) rfl
theorem wa_I : Cond.arrayClass .int ∈ s_WL := s_WL_of 113 (by decide +kernel) rfl
theorem wa_L : Cond.arrayClass .long ∈ s_WL := s_WL_of 159 (by decide +kernel) rfl
theorem wa_B : Cond.arrayClass .byte ∈ s_WL := s_WL_of 205 (by decide +kernel) rfl
theorem s_vo_r {n k : Nat} (h : k < n) : s_vo n (.ref k) := Or.inl h

theorem wl_X2 : Cond.methodLink RX2 3 Lib.objectInit ∈ s_WL := s_WL_of 64 (by decide +kernel) rfl
theorem wl_X3 : Cond.methodLink RX3 3 Lib.objectInit ∈ s_WL := s_WL_of 165 (by decide +kernel) rfl
theorem wl_X4 : Cond.methodLink RX4 3 Lib.objectInit ∈ s_WL := s_WL_of 119 (by decide +kernel) rfl
theorem wl_X5 : Cond.methodLink RX5 3 Lib.objectInit ∈ s_WL := s_WL_of 211 (by decide +kernel) rfl
theorem wl_X6 : Cond.methodLink RX6 3 Lib.objectInit ∈ s_WL := s_WL_of 178 (by decide +kernel) rfl
theorem wl_X7 : Cond.methodLink RX7 3 Lib.objectInit ∈ s_WL := s_WL_of 136 (by decide +kernel) rfl
theorem wl_X8 : Cond.methodLink RX8 3 Lib.objectInit ∈ s_WL := s_WL_of 56 (by decide +kernel) rfl
theorem c_X2_init {h : s_H} {d : Nat} (ho : h d = .inr (0, [.null, .null, .null, .null, .int 0, .int 0, .int 0, .int 0, .int 0])) (hcl : s_cl h (d + 1)) (hb : d + 5 ≤ s_big) : s_Mt TX2_init 4 56 [.ref d] h (d + 1) (fun o h1 n1 => o = .inl none ∧ n1 = d + 5 ∧ s_cl h1 (d + 5) ∧ s_disk h1 d (fun _ _ => 0, fun _ => 0) ∧ s_lo h h1 d) := by
  refine s_Mt_of rfl (by decide) (by exact Nat.le_of_ble_eq_true rfl) ?_
  have hlo : s_lo h h d := s_lo.rf
  refine g_aload_n dX2_init_0 rfl (by rfl) ?_
  refine g_objInit dX2_init_1 wl_X2 wi_obj wc_obj (Nat.le_of_ble_eq_true rfl) ?_
  refine g_aload_n dX2_init_4 rfl (by rfl) ?_
  refine g_bipush (14) dX2_init_5 (by rfl) ?_
  refine g_newaI (N' := 14) dX2_init_7 wa_I rfl (by omega) (by omega) hcl (s_ent1 (by omega)) (s_vo1 (by omega)) (by omega) (by omega) (fun h1 e1 hcl => ?_)
  have ho := s_up_off e1 (by omega) ho
  have ha1 := s_up_at e1
  have hlo := hlo.up e1 (by omega)
  refine g_putF' dX2_init_9 pX2_9 rfl (fun q z => by cases z; rfl) ho (by omega) (by exact Nat.le_of_ble_eq_true rfl) (by rfl) (by rfl) (fun h2 e2 => ?_)
  have ho : h2 d = .inr (0, [.ref (d + 1), .null, .null, .null, .int 0, .int 0, .int 0, .int 0, .int 0]) := s_up_at e2
  have ha1 := s_up_off e2 (by omega) ha1
  have hcl : s_cl h2 (d + 2) := hcl.up e2 (Nat.le_refl _) (List.forall_mem_cons.mpr ⟨s_vo_r (by omega), (List.forall_mem_cons.mpr ⟨trivial, (List.forall_mem_cons.mpr ⟨trivial, (List.forall_mem_cons.mpr ⟨trivial, (List.forall_mem_cons.mpr ⟨trivial, (List.forall_mem_cons.mpr ⟨trivial, (List.forall_mem_cons.mpr ⟨trivial, (List.forall_mem_cons.mpr ⟨trivial, (List.forall_mem_cons.mpr ⟨trivial, (fun _ z => nomatch z)⟩)⟩)⟩)⟩)⟩)⟩)⟩)⟩)⟩) (fun j a b => by omega)
  have hlo := hlo.up e2 (by omega)
  refine g_aload_n dX2_init_12 rfl (by rfl) ?_
  refine g_bipush (14) dX2_init_13 (by rfl) ?_
  refine g_newaI (N' := 14) dX2_init_15 wa_I rfl (by omega) (by omega) hcl (s_ent1 (by omega)) (s_vo1 (by omega)) (by omega) (by omega) (fun h3 e3 hcl => ?_)
  have ho := s_up_off e3 (by omega) ho
  have ha1 := s_up_off e3 (by omega) ha1
  have ha2 := s_up_at e3
  have hlo := hlo.up e3 (by omega)
  refine g_putF' dX2_init_17 pX2_15 rfl (fun q z => by cases z; rfl) ho (by omega) (by exact Nat.le_of_ble_eq_true rfl) (by rfl) (by rfl) (fun h4 e4 => ?_)
  have ho : h4 d = .inr (0, [.ref (d + 1), .ref (d + 2), .null, .null, .int 0, .int 0, .int 0, .int 0, .int 0]) := s_up_at e4
  have ha1 := s_up_off e4 (by omega) ha1
  have ha2 := s_up_off e4 (by omega) ha2
  have hcl : s_cl h4 (d + 3) := hcl.up e4 (Nat.le_refl _) (List.forall_mem_cons.mpr ⟨s_vo_r (by omega), (List.forall_mem_cons.mpr ⟨s_vo_r (by omega), (List.forall_mem_cons.mpr ⟨trivial, (List.forall_mem_cons.mpr ⟨trivial, (List.forall_mem_cons.mpr ⟨trivial, (List.forall_mem_cons.mpr ⟨trivial, (List.forall_mem_cons.mpr ⟨trivial, (List.forall_mem_cons.mpr ⟨trivial, (List.forall_mem_cons.mpr ⟨trivial, (fun _ z => nomatch z)⟩)⟩)⟩)⟩)⟩)⟩)⟩)⟩)⟩) (fun j a b => by omega)
  have hlo := hlo.up e4 (by omega)
  refine g_aload_n dX2_init_20 rfl (by rfl) ?_
  refine g_bipush (14) dX2_init_21 (by rfl) ?_
  refine g_newaI (N' := 14) dX2_init_23 wa_I rfl (by omega) (by omega) hcl (s_ent1 (by omega)) (s_vo1 (by omega)) (by omega) (by omega) (fun h5 e5 hcl => ?_)
  have ho := s_up_off e5 (by omega) ho
  have ha1 := s_up_off e5 (by omega) ha1
  have ha2 := s_up_off e5 (by omega) ha2
  have ha3 := s_up_at e5
  have hlo := hlo.up e5 (by omega)
  refine g_putF' dX2_init_25 pX2_18 rfl (fun q z => by cases z; rfl) ho (by omega) (by exact Nat.le_of_ble_eq_true rfl) (by rfl) (by rfl) (fun h6 e6 => ?_)
  have ho : h6 d = .inr (0, [.ref (d + 1), .ref (d + 2), .ref (d + 3), .null, .int 0, .int 0, .int 0, .int 0, .int 0]) := s_up_at e6
  have ha1 := s_up_off e6 (by omega) ha1
  have ha2 := s_up_off e6 (by omega) ha2
  have ha3 := s_up_off e6 (by omega) ha3
  have hcl : s_cl h6 (d + 4) := hcl.up e6 (Nat.le_refl _) (List.forall_mem_cons.mpr ⟨s_vo_r (by omega), (List.forall_mem_cons.mpr ⟨s_vo_r (by omega), (List.forall_mem_cons.mpr ⟨s_vo_r (by omega), (List.forall_mem_cons.mpr ⟨trivial, (List.forall_mem_cons.mpr ⟨trivial, (List.forall_mem_cons.mpr ⟨trivial, (List.forall_mem_cons.mpr ⟨trivial, (List.forall_mem_cons.mpr ⟨trivial, (List.forall_mem_cons.mpr ⟨trivial, (fun _ z => nomatch z)⟩)⟩)⟩)⟩)⟩)⟩)⟩)⟩)⟩) (fun j a b => by omega)
  have hlo := hlo.up e6 (by omega)
  refine g_aload_n dX2_init_28 rfl (by rfl) ?_
  refine g_bipush (14) dX2_init_29 (by rfl) ?_
  refine g_newaI (N' := 14) dX2_init_31 wa_I rfl (by omega) (by omega) hcl (s_ent1 (by omega)) (s_vo1 (by omega)) (by omega) (by omega) (fun h7 e7 hcl => ?_)
  have ho := s_up_off e7 (by omega) ho
  have ha1 := s_up_off e7 (by omega) ha1
  have ha2 := s_up_off e7 (by omega) ha2
  have ha3 := s_up_off e7 (by omega) ha3
  have ha4 := s_up_at e7
  have hlo := hlo.up e7 (by omega)
  refine g_putF' dX2_init_33 pX2_21 rfl (fun q z => by cases z; rfl) ho (by omega) (by exact Nat.le_of_ble_eq_true rfl) (by rfl) (by rfl) (fun h8 e8 => ?_)
  have ho : h8 d = .inr (0, [.ref (d + 1), .ref (d + 2), .ref (d + 3), .ref (d + 4), .int 0, .int 0, .int 0, .int 0, .int 0]) := s_up_at e8
  have ha1 := s_up_off e8 (by omega) ha1
  have ha2 := s_up_off e8 (by omega) ha2
  have ha3 := s_up_off e8 (by omega) ha3
  have ha4 := s_up_off e8 (by omega) ha4
  have hcl : s_cl h8 (d + 5) := hcl.up e8 (Nat.le_refl _) (List.forall_mem_cons.mpr ⟨s_vo_r (by omega), (List.forall_mem_cons.mpr ⟨s_vo_r (by omega), (List.forall_mem_cons.mpr ⟨s_vo_r (by omega), (List.forall_mem_cons.mpr ⟨s_vo_r (by omega), (List.forall_mem_cons.mpr ⟨trivial, (List.forall_mem_cons.mpr ⟨trivial, (List.forall_mem_cons.mpr ⟨trivial, (List.forall_mem_cons.mpr ⟨trivial, (List.forall_mem_cons.mpr ⟨trivial, (fun _ z => nomatch z)⟩)⟩)⟩)⟩)⟩)⟩)⟩)⟩)⟩) (fun j a b => by omega)
  have hlo := hlo.up e8 (by omega)
  refine g_aload_n dX2_init_36 rfl (by rfl) ?_
  refine g_iconst (0) dX2_init_37 (by rfl) ?_
  refine g_putf' dX2_init_38 pX2_24 ho (by omega) (by exact Nat.le_of_ble_eq_true rfl) (by rfl) (by rfl) (fun h9 e9 => ?_)
  have ho : h9 d = .inr (0, [.ref (d + 1), .ref (d + 2), .ref (d + 3), .ref (d + 4), .int (0), .int 0, .int 0, .int 0, .int 0]) := s_up_at e9
  have ha1 := s_up_off e9 (by omega) ha1
  have ha2 := s_up_off e9 (by omega) ha2
  have ha3 := s_up_off e9 (by omega) ha3
  have ha4 := s_up_off e9 (by omega) ha4
  have hcl : s_cl h9 (d + 5) := hcl.up e9 (Nat.le_refl _) (List.forall_mem_cons.mpr ⟨s_vo_r (by omega), (List.forall_mem_cons.mpr ⟨s_vo_r (by omega), (List.forall_mem_cons.mpr ⟨s_vo_r (by omega), (List.forall_mem_cons.mpr ⟨s_vo_r (by omega), (List.forall_mem_cons.mpr ⟨trivial, (List.forall_mem_cons.mpr ⟨trivial, (List.forall_mem_cons.mpr ⟨trivial, (List.forall_mem_cons.mpr ⟨trivial, (List.forall_mem_cons.mpr ⟨trivial, (fun _ z => nomatch z)⟩)⟩)⟩)⟩)⟩)⟩)⟩)⟩)⟩) (fun j a b => by omega)
  have hlo := hlo.up e9 (by omega)
  refine g_aload_n dX2_init_41 rfl (by rfl) ?_
  refine g_iconst (0) dX2_init_42 (by rfl) ?_
  refine g_putf' dX2_init_43 pX2_28 ho (by omega) (by exact Nat.le_of_ble_eq_true rfl) (by rfl) (by rfl) (fun h10 e10 => ?_)
  have ho : h10 d = .inr (0, [.ref (d + 1), .ref (d + 2), .ref (d + 3), .ref (d + 4), .int (0), .int (0), .int 0, .int 0, .int 0]) := s_up_at e10
  have ha1 := s_up_off e10 (by omega) ha1
  have ha2 := s_up_off e10 (by omega) ha2
  have ha3 := s_up_off e10 (by omega) ha3
  have ha4 := s_up_off e10 (by omega) ha4
  have hcl : s_cl h10 (d + 5) := hcl.up e10 (Nat.le_refl _) (List.forall_mem_cons.mpr ⟨s_vo_r (by omega), (List.forall_mem_cons.mpr ⟨s_vo_r (by omega), (List.forall_mem_cons.mpr ⟨s_vo_r (by omega), (List.forall_mem_cons.mpr ⟨s_vo_r (by omega), (List.forall_mem_cons.mpr ⟨trivial, (List.forall_mem_cons.mpr ⟨trivial, (List.forall_mem_cons.mpr ⟨trivial, (List.forall_mem_cons.mpr ⟨trivial, (List.forall_mem_cons.mpr ⟨trivial, (fun _ z => nomatch z)⟩)⟩)⟩)⟩)⟩)⟩)⟩)⟩)⟩) (fun j a b => by omega)
  have hlo := hlo.up e10 (by omega)
  refine g_aload_n dX2_init_46 rfl (by rfl) ?_
  refine g_iconst (0) dX2_init_47 (by rfl) ?_
  refine g_putf' dX2_init_48 pX2_31 ho (by omega) (by exact Nat.le_of_ble_eq_true rfl) (by rfl) (by rfl) (fun h11 e11 => ?_)
  have ho : h11 d = .inr (0, [.ref (d + 1), .ref (d + 2), .ref (d + 3), .ref (d + 4), .int (0), .int (0), .int (0), .int 0, .int 0]) := s_up_at e11
  have ha1 := s_up_off e11 (by omega) ha1
  have ha2 := s_up_off e11 (by omega) ha2
  have ha3 := s_up_off e11 (by omega) ha3
  have ha4 := s_up_off e11 (by omega) ha4
  have hcl : s_cl h11 (d + 5) := hcl.up e11 (Nat.le_refl _) (List.forall_mem_cons.mpr ⟨s_vo_r (by omega), (List.forall_mem_cons.mpr ⟨s_vo_r (by omega), (List.forall_mem_cons.mpr ⟨s_vo_r (by omega), (List.forall_mem_cons.mpr ⟨s_vo_r (by omega), (List.forall_mem_cons.mpr ⟨trivial, (List.forall_mem_cons.mpr ⟨trivial, (List.forall_mem_cons.mpr ⟨trivial, (List.forall_mem_cons.mpr ⟨trivial, (List.forall_mem_cons.mpr ⟨trivial, (fun _ z => nomatch z)⟩)⟩)⟩)⟩)⟩)⟩)⟩)⟩)⟩) (fun j a b => by omega)
  have hlo := hlo.up e11 (by omega)
  refine g_aload_n dX2_init_51 rfl (by rfl) ?_
  refine g_iconst (0) dX2_init_52 (by rfl) ?_
  refine g_putf' dX2_init_53 pX2_34 ho (by omega) (by exact Nat.le_of_ble_eq_true rfl) (by rfl) (by rfl) (fun h12 e12 => ?_)
  have ho : h12 d = .inr (0, [.ref (d + 1), .ref (d + 2), .ref (d + 3), .ref (d + 4), .int (0), .int (0), .int (0), .int (0), .int 0]) := s_up_at e12
  have ha1 := s_up_off e12 (by omega) ha1
  have ha2 := s_up_off e12 (by omega) ha2
  have ha3 := s_up_off e12 (by omega) ha3
  have ha4 := s_up_off e12 (by omega) ha4
  have hcl : s_cl h12 (d + 5) := hcl.up e12 (Nat.le_refl _) (List.forall_mem_cons.mpr ⟨s_vo_r (by omega), (List.forall_mem_cons.mpr ⟨s_vo_r (by omega), (List.forall_mem_cons.mpr ⟨s_vo_r (by omega), (List.forall_mem_cons.mpr ⟨s_vo_r (by omega), (List.forall_mem_cons.mpr ⟨trivial, (List.forall_mem_cons.mpr ⟨trivial, (List.forall_mem_cons.mpr ⟨trivial, (List.forall_mem_cons.mpr ⟨trivial, (List.forall_mem_cons.mpr ⟨trivial, (fun _ z => nomatch z)⟩)⟩)⟩)⟩)⟩)⟩)⟩)⟩)⟩) (fun j a b => by omega)
  have hlo := hlo.up e12 (by omega)
  refine g_aload_n dX2_init_56 rfl (by rfl) ?_
  refine g_iconst (0) dX2_init_57 (by rfl) ?_
  refine g_putf' dX2_init_58 pX2_37 ho (by omega) (by exact Nat.le_of_ble_eq_true rfl) (by rfl) (by rfl) (fun h13 e13 => ?_)
  have ho : h13 d = .inr (0, [.ref (d + 1), .ref (d + 2), .ref (d + 3), .ref (d + 4), .int (0), .int (0), .int (0), .int (0), .int (0)]) := s_up_at e13
  have ha1 := s_up_off e13 (by omega) ha1
  have ha2 := s_up_off e13 (by omega) ha2
  have ha3 := s_up_off e13 (by omega) ha3
  have ha4 := s_up_off e13 (by omega) ha4
  have hcl : s_cl h13 (d + 5) := hcl.up e13 (Nat.le_refl _) (List.forall_mem_cons.mpr ⟨s_vo_r (by omega), (List.forall_mem_cons.mpr ⟨s_vo_r (by omega), (List.forall_mem_cons.mpr ⟨s_vo_r (by omega), (List.forall_mem_cons.mpr ⟨s_vo_r (by omega), (List.forall_mem_cons.mpr ⟨trivial, (List.forall_mem_cons.mpr ⟨trivial, (List.forall_mem_cons.mpr ⟨trivial, (List.forall_mem_cons.mpr ⟨trivial, (List.forall_mem_cons.mpr ⟨trivial, (fun _ z => nomatch z)⟩)⟩)⟩)⟩)⟩)⟩)⟩)⟩)⟩) (fun j a b => by omega)
  have hlo := hlo.up e13 (by omega)
  refine g_vreturn dX2_init_61 rfl ?_
  exact ⟨rfl, rfl, hcl, ⟨ho, ha1, ha2, ha3, ha4⟩, hlo⟩

theorem c_X3_init {h : s_H} {d : Nat} (ho : h d = .inr (1, [.null, .int 0])) (hcl : s_cl h (d + 1)) (hb : d + 2 ≤ s_big) : s_Mt TX3_init 1 14 [.ref d] h (d + 1) (fun o h1 n1 => o = .inl none ∧ n1 = d + 2 ∧ s_cl h1 (d + 2) ∧ (h1 d = .inr (1, [.ref (d + 1), .int 0]) ∧ h1 (d + 1) = .inl (0, 14, .inl (fun _ => 0))) ∧ s_lo h h1 d) := by
  refine s_Mt_of rfl (by decide) (by exact Nat.le_of_ble_eq_true rfl) ?_
  have hlo : s_lo h h d := s_lo.rf
  refine g_aload_n dX3_init_0 rfl (by rfl) ?_
  refine g_objInit dX3_init_1 wl_X3 wi_obj wc_obj (Nat.le_of_ble_eq_true rfl) ?_
  refine g_aload_n dX3_init_4 rfl (by rfl) ?_
  refine g_bipush (14) dX3_init_5 (by rfl) ?_
  refine g_newaI (N' := 14) dX3_init_7 wa_I rfl (by omega) (by omega) hcl (s_ent1 (by omega)) (s_vo1 (by omega)) (by omega) (by omega) (fun h1 e1 hcl => ?_)
  have ho := s_up_off e1 (by omega) ho
  have ha1 := s_up_at e1
  have hlo := hlo.up e1 (by omega)
  refine g_putF' dX3_init_9 pX3_9 rfl (fun q z => by cases z; rfl) ho (by omega) (by exact Nat.le_of_ble_eq_true rfl) (by rfl) (by rfl) (fun h2 e2 => ?_)
  have ho : h2 d = .inr (1, [.ref (d + 1), .int 0]) := s_up_at e2
  have ha1 := s_up_off e2 (by omega) ha1
  have hcl : s_cl h2 (d + 2) := hcl.up e2 (Nat.le_refl _) (List.forall_mem_cons.mpr ⟨s_vo_r (by omega), (List.forall_mem_cons.mpr ⟨trivial, (fun _ z => nomatch z)⟩)⟩) (fun j a b => by omega)
  have hlo := hlo.up e2 (by omega)
  refine g_aload_n dX3_init_12 rfl (by rfl) ?_
  refine g_iconst (0) dX3_init_13 (by rfl) ?_
  refine g_putf' dX3_init_14 pX3_15 ho (by omega) (by exact Nat.le_of_ble_eq_true rfl) (by rfl) (by rfl) (fun h3 e3 => ?_)
  have ho : h3 d = .inr (1, [.ref (d + 1), .int (0)]) := s_up_at e3
  have ha1 := s_up_off e3 (by omega) ha1
  have hcl : s_cl h3 (d + 2) := hcl.up e3 (Nat.le_refl _) (List.forall_mem_cons.mpr ⟨s_vo_r (by omega), (List.forall_mem_cons.mpr ⟨trivial, (fun _ z => nomatch z)⟩)⟩) (fun j a b => by omega)
  have hlo := hlo.up e3 (by omega)
  refine g_vreturn dX3_init_17 rfl ?_
  exact ⟨rfl, rfl, hcl, ⟨ho, ha1⟩, hlo⟩

theorem c_X5_init {h : s_H} {d : Nat} (ho : h d = .inr (3, [.null, .int 0])) (hcl : s_cl h (d + 1)) (hb : d + 2 ≤ s_big) : s_Mt TX5_init 1 1200 [.ref d] h (d + 1) (fun o h1 n1 => o = .inl none ∧ n1 = d + 2 ∧ s_cl h1 (d + 2) ∧ (h1 d = .inr (3, [.ref (d + 1), .int 0]) ∧ h1 (d + 1) = .inl (2, 1200, .inl (fun _ => 0))) ∧ s_lo h h1 d) := by
  refine s_Mt_of rfl (by decide) (by exact Nat.le_of_ble_eq_true rfl) ?_
  have hlo : s_lo h h d := s_lo.rf
  refine g_aload_n dX5_init_0 rfl (by rfl) ?_
  refine g_objInit dX5_init_1 wl_X5 wi_obj wc_obj (Nat.le_of_ble_eq_true rfl) ?_
  refine g_aload_n dX5_init_4 rfl (by rfl) ?_
  refine g_sipush (1200) dX5_init_5 (by rfl) ?_
  refine g_newaB (N' := 1200) dX5_init_8 wa_B rfl (by omega) (by omega) hcl (s_ent1 (by omega)) (s_vo1 (by omega)) (by omega) (by omega) (fun h1 e1 hcl => ?_)
  have ho := s_up_off e1 (by omega) ho
  have ha1 := s_up_at e1
  have hlo := hlo.up e1 (by omega)
  refine g_putF' dX5_init_10 pX5_9 rfl (fun q z => by cases z; rfl) ho (by omega) (by exact Nat.le_of_ble_eq_true rfl) (by rfl) (by rfl) (fun h2 e2 => ?_)
  have ho : h2 d = .inr (3, [.ref (d + 1), .int 0]) := s_up_at e2
  have ha1 := s_up_off e2 (by omega) ha1
  have hcl : s_cl h2 (d + 2) := hcl.up e2 (Nat.le_refl _) (List.forall_mem_cons.mpr ⟨s_vo_r (by omega), (List.forall_mem_cons.mpr ⟨trivial, (fun _ z => nomatch z)⟩)⟩) (fun j a b => by omega)
  have hlo := hlo.up e2 (by omega)
  refine g_aload_n dX5_init_13 rfl (by rfl) ?_
  refine g_iconst (0) dX5_init_14 (by rfl) ?_
  refine g_putf' dX5_init_15 pX5_15 ho (by omega) (by exact Nat.le_of_ble_eq_true rfl) (by rfl) (by rfl) (fun h3 e3 => ?_)
  have ho : h3 d = .inr (3, [.ref (d + 1), .int (0)]) := s_up_at e3
  have ha1 := s_up_off e3 (by omega) ha1
  have hcl : s_cl h3 (d + 2) := hcl.up e3 (Nat.le_refl _) (List.forall_mem_cons.mpr ⟨s_vo_r (by omega), (List.forall_mem_cons.mpr ⟨trivial, (fun _ z => nomatch z)⟩)⟩) (fun j a b => by omega)
  have hlo := hlo.up e3 (by omega)
  refine g_vreturn dX5_init_18 rfl ?_
  exact ⟨rfl, rfl, hcl, ⟨ho, ha1⟩, hlo⟩

theorem c_X6_init {h : s_H} {d : Nat} (ho : h d = .inr (4, [.null, .int 0, .int 0, .int 0, .int 0, .int 0, .int 0, .int 0])) (hcl : s_cl h (d + 1)) (hb : d + 2 ≤ s_big) : s_Mt TX6_init 1 500 [.ref d] h (d + 1) (fun o h1 n1 => o = .inl none ∧ n1 = d + 2 ∧ s_cl h1 (d + 2) ∧ s_sc h1 d (fun _ => 0) 0 0 (-1) 0 0 0 0 ∧ s_lo h h1 d) := by
  refine s_Mt_of rfl (by decide) (by exact Nat.le_of_ble_eq_true rfl) ?_
  have hlo : s_lo h h d := s_lo.rf
  refine g_aload_n dX6_init_0 rfl (by rfl) ?_
  refine g_objInit dX6_init_1 wl_X6 wi_obj wc_obj (Nat.le_of_ble_eq_true rfl) ?_
  refine g_aload_n dX6_init_4 rfl (by rfl) ?_
  refine g_sipush (500) dX6_init_5 (by rfl) ?_
  refine g_newaB (N' := 500) dX6_init_8 wa_B rfl (by omega) (by omega) hcl (s_ent1 (by omega)) (s_vo1 (by omega)) (by omega) (by omega) (fun h1 e1 hcl => ?_)
  have ho := s_up_off e1 (by omega) ho
  have ha1 := s_up_at e1
  have hlo := hlo.up e1 (by omega)
  refine g_putF' dX6_init_10 pX6_9 rfl (fun q z => by cases z; rfl) ho (by omega) (by exact Nat.le_of_ble_eq_true rfl) (by rfl) (by rfl) (fun h2 e2 => ?_)
  have ho : h2 d = .inr (4, [.ref (d + 1), .int 0, .int 0, .int 0, .int 0, .int 0, .int 0, .int 0]) := s_up_at e2
  have ha1 := s_up_off e2 (by omega) ha1
  have hcl : s_cl h2 (d + 2) := hcl.up e2 (Nat.le_refl _) (List.forall_mem_cons.mpr ⟨s_vo_r (by omega), (List.forall_mem_cons.mpr ⟨trivial, (List.forall_mem_cons.mpr ⟨trivial, (List.forall_mem_cons.mpr ⟨trivial, (List.forall_mem_cons.mpr ⟨trivial, (List.forall_mem_cons.mpr ⟨trivial, (List.forall_mem_cons.mpr ⟨trivial, (List.forall_mem_cons.mpr ⟨trivial, (fun _ z => nomatch z)⟩)⟩)⟩)⟩)⟩)⟩)⟩)⟩) (fun j a b => by omega)
  have hlo := hlo.up e2 (by omega)
  refine g_aload_n dX6_init_13 rfl (by rfl) ?_
  refine g_iconst (0) dX6_init_14 (by rfl) ?_
  refine g_putf' dX6_init_15 pX6_15 ho (by omega) (by exact Nat.le_of_ble_eq_true rfl) (by rfl) (by rfl) (fun h3 e3 => ?_)
  have ho : h3 d = .inr (4, [.ref (d + 1), .int (0), .int 0, .int 0, .int 0, .int 0, .int 0, .int 0]) := s_up_at e3
  have ha1 := s_up_off e3 (by omega) ha1
  have hcl : s_cl h3 (d + 2) := hcl.up e3 (Nat.le_refl _) (List.forall_mem_cons.mpr ⟨s_vo_r (by omega), (List.forall_mem_cons.mpr ⟨trivial, (List.forall_mem_cons.mpr ⟨trivial, (List.forall_mem_cons.mpr ⟨trivial, (List.forall_mem_cons.mpr ⟨trivial, (List.forall_mem_cons.mpr ⟨trivial, (List.forall_mem_cons.mpr ⟨trivial, (List.forall_mem_cons.mpr ⟨trivial, (fun _ z => nomatch z)⟩)⟩)⟩)⟩)⟩)⟩)⟩)⟩) (fun j a b => by omega)
  have hlo := hlo.up e3 (by omega)
  refine g_aload_n dX6_init_18 rfl (by rfl) ?_
  refine g_iconst (0) dX6_init_19 (by rfl) ?_
  refine g_putf' dX6_init_20 pX6_19 ho (by omega) (by exact Nat.le_of_ble_eq_true rfl) (by rfl) (by rfl) (fun h4 e4 => ?_)
  have ho : h4 d = .inr (4, [.ref (d + 1), .int (0), .int (0), .int 0, .int 0, .int 0, .int 0, .int 0]) := s_up_at e4
  have ha1 := s_up_off e4 (by omega) ha1
  have hcl : s_cl h4 (d + 2) := hcl.up e4 (Nat.le_refl _) (List.forall_mem_cons.mpr ⟨s_vo_r (by omega), (List.forall_mem_cons.mpr ⟨trivial, (List.forall_mem_cons.mpr ⟨trivial, (List.forall_mem_cons.mpr ⟨trivial, (List.forall_mem_cons.mpr ⟨trivial, (List.forall_mem_cons.mpr ⟨trivial, (List.forall_mem_cons.mpr ⟨trivial, (List.forall_mem_cons.mpr ⟨trivial, (fun _ z => nomatch z)⟩)⟩)⟩)⟩)⟩)⟩)⟩)⟩) (fun j a b => by omega)
  have hlo := hlo.up e4 (by omega)
  refine g_aload_n dX6_init_23 rfl (by rfl) ?_
  refine g_iconst (-1) dX6_init_24 (by rfl) ?_
  refine g_putf' dX6_init_25 pX6_22 ho (by omega) (by exact Nat.le_of_ble_eq_true rfl) (by rfl) (by rfl) (fun h5 e5 => ?_)
  have ho : h5 d = .inr (4, [.ref (d + 1), .int (0), .int (0), .int (-1), .int 0, .int 0, .int 0, .int 0]) := s_up_at e5
  have ha1 := s_up_off e5 (by omega) ha1
  have hcl : s_cl h5 (d + 2) := hcl.up e5 (Nat.le_refl _) (List.forall_mem_cons.mpr ⟨s_vo_r (by omega), (List.forall_mem_cons.mpr ⟨trivial, (List.forall_mem_cons.mpr ⟨trivial, (List.forall_mem_cons.mpr ⟨trivial, (List.forall_mem_cons.mpr ⟨trivial, (List.forall_mem_cons.mpr ⟨trivial, (List.forall_mem_cons.mpr ⟨trivial, (List.forall_mem_cons.mpr ⟨trivial, (fun _ z => nomatch z)⟩)⟩)⟩)⟩)⟩)⟩)⟩)⟩) (fun j a b => by omega)
  have hlo := hlo.up e5 (by omega)
  refine g_aload_n dX6_init_28 rfl (by rfl) ?_
  refine g_iconst (0) dX6_init_29 (by rfl) ?_
  refine g_putf' dX6_init_30 pX6_25 ho (by omega) (by exact Nat.le_of_ble_eq_true rfl) (by rfl) (by rfl) (fun h6 e6 => ?_)
  have ho : h6 d = .inr (4, [.ref (d + 1), .int (0), .int (0), .int (-1), .int (0), .int 0, .int 0, .int 0]) := s_up_at e6
  have ha1 := s_up_off e6 (by omega) ha1
  have hcl : s_cl h6 (d + 2) := hcl.up e6 (Nat.le_refl _) (List.forall_mem_cons.mpr ⟨s_vo_r (by omega), (List.forall_mem_cons.mpr ⟨trivial, (List.forall_mem_cons.mpr ⟨trivial, (List.forall_mem_cons.mpr ⟨trivial, (List.forall_mem_cons.mpr ⟨trivial, (List.forall_mem_cons.mpr ⟨trivial, (List.forall_mem_cons.mpr ⟨trivial, (List.forall_mem_cons.mpr ⟨trivial, (fun _ z => nomatch z)⟩)⟩)⟩)⟩)⟩)⟩)⟩)⟩) (fun j a b => by omega)
  have hlo := hlo.up e6 (by omega)
  refine g_aload_n dX6_init_33 rfl (by rfl) ?_
  refine g_iconst (0) dX6_init_34 (by rfl) ?_
  refine g_putf' dX6_init_35 pX6_28 ho (by omega) (by exact Nat.le_of_ble_eq_true rfl) (by rfl) (by rfl) (fun h7 e7 => ?_)
  have ho : h7 d = .inr (4, [.ref (d + 1), .int (0), .int (0), .int (-1), .int (0), .int (0), .int 0, .int 0]) := s_up_at e7
  have ha1 := s_up_off e7 (by omega) ha1
  have hcl : s_cl h7 (d + 2) := hcl.up e7 (Nat.le_refl _) (List.forall_mem_cons.mpr ⟨s_vo_r (by omega), (List.forall_mem_cons.mpr ⟨trivial, (List.forall_mem_cons.mpr ⟨trivial, (List.forall_mem_cons.mpr ⟨trivial, (List.forall_mem_cons.mpr ⟨trivial, (List.forall_mem_cons.mpr ⟨trivial, (List.forall_mem_cons.mpr ⟨trivial, (List.forall_mem_cons.mpr ⟨trivial, (fun _ z => nomatch z)⟩)⟩)⟩)⟩)⟩)⟩)⟩)⟩) (fun j a b => by omega)
  have hlo := hlo.up e7 (by omega)
  refine g_aload_n dX6_init_38 rfl (by rfl) ?_
  refine g_iconst (0) dX6_init_39 (by rfl) ?_
  refine g_putf' dX6_init_40 pX6_31 ho (by omega) (by exact Nat.le_of_ble_eq_true rfl) (by rfl) (by rfl) (fun h8 e8 => ?_)
  have ho : h8 d = .inr (4, [.ref (d + 1), .int (0), .int (0), .int (-1), .int (0), .int (0), .int (0), .int 0]) := s_up_at e8
  have ha1 := s_up_off e8 (by omega) ha1
  have hcl : s_cl h8 (d + 2) := hcl.up e8 (Nat.le_refl _) (List.forall_mem_cons.mpr ⟨s_vo_r (by omega), (List.forall_mem_cons.mpr ⟨trivial, (List.forall_mem_cons.mpr ⟨trivial, (List.forall_mem_cons.mpr ⟨trivial, (List.forall_mem_cons.mpr ⟨trivial, (List.forall_mem_cons.mpr ⟨trivial, (List.forall_mem_cons.mpr ⟨trivial, (List.forall_mem_cons.mpr ⟨trivial, (fun _ z => nomatch z)⟩)⟩)⟩)⟩)⟩)⟩)⟩)⟩) (fun j a b => by omega)
  have hlo := hlo.up e8 (by omega)
  refine g_aload_n dX6_init_43 rfl (by rfl) ?_
  refine g_iconst (0) dX6_init_44 (by rfl) ?_
  refine g_putf' dX6_init_45 pX6_34 ho (by omega) (by exact Nat.le_of_ble_eq_true rfl) (by rfl) (by rfl) (fun h9 e9 => ?_)
  have ho : h9 d = .inr (4, [.ref (d + 1), .int (0), .int (0), .int (-1), .int (0), .int (0), .int (0), .int (0)]) := s_up_at e9
  have ha1 := s_up_off e9 (by omega) ha1
  have hcl : s_cl h9 (d + 2) := hcl.up e9 (Nat.le_refl _) (List.forall_mem_cons.mpr ⟨s_vo_r (by omega), (List.forall_mem_cons.mpr ⟨trivial, (List.forall_mem_cons.mpr ⟨trivial, (List.forall_mem_cons.mpr ⟨trivial, (List.forall_mem_cons.mpr ⟨trivial, (List.forall_mem_cons.mpr ⟨trivial, (List.forall_mem_cons.mpr ⟨trivial, (List.forall_mem_cons.mpr ⟨trivial, (fun _ z => nomatch z)⟩)⟩)⟩)⟩)⟩)⟩)⟩)⟩) (fun j a b => by omega)
  have hlo := hlo.up e9 (by omega)
  refine g_vreturn dX6_init_48 rfl ?_
  exact ⟨rfl, rfl, hcl, ⟨ho, ha1⟩, hlo⟩
