/-! ROWS THAT MAKE OBJECTS: a new number's address changes nothing that is said of the others -/
/-- a value that names no number from n up to s_big -/
def s_vo (n : Nat) : Value → Prop
  | .ref k => k < n ∨ s_big ≤ k
  | _ => True
def s_co (n : Nat) : s_O → Prop
  | .inr (_, fs) => ∀ v ∈ fs, s_vo n v
  | .inl (_, _, .inr (.inr (.inr (.inr f)))) => ∀ j k, f j = some k → k < n ∨ s_big ≤ k
  | .inl _ => True
def s_cl (h : s_H) (n : Nat) : Prop := ∀ i, i < n → s_co n (h i)
theorem s_vo.le {n n' : Nat} (hn : n ≤ n') : ∀ {v : Value}, s_vo n v → s_vo n' v
  | .ref _, h => h.elim (fun z => Or.inl (Nat.lt_of_lt_of_le z hn)) Or.inr
  | .int _, _ => trivial
  | .long _, _ => trivial
  | .float _, _ => trivial
  | .double _, _ => trivial
  | .null, _ => trivial
  | .retAddr _, _ => trivial
theorem s_co.le {n n' : Nat} (hn : n ≤ n') : ∀ {o : s_O}, s_co n o → s_co n' o
  | .inr (_, _), h => fun v hv => (h v hv).le hn
  | .inl (_, _, .inr (.inr (.inr (.inr _)))), h => fun j k z => (h j k z).elim (fun z => Or.inl (Nat.lt_of_lt_of_le z hn)) Or.inr
  | .inl (_, _, .inl _), _ => trivial
  | .inl (_, _, .inr (.inl _)), _ => trivial
  | .inl (_, _, .inr (.inr (.inl _))), _ => trivial
  | .inl (_, _, .inr (.inr (.inr (.inl _)))), _ => trivial
theorem s_cl.up {h h1 : s_H} {n n' i : Nat} {o : s_O} (q : s_cl h n) (e : h1 = s_up h i o) (hn : n ≤ n') (ho : s_co n' o) (hi : ∀ j, n ≤ j → j < n' → j = i) : s_cl h1 n' := fun j hj => by
  rw [e]
  by_cases z : j = i
  · rw [z, s_up_same]; exact ho
  · rw [s_up_ne h o z]
    exact (q j (Nat.lt_of_not_le fun y => z (hi j y hj))).le hn
theorem s_rv_ag {n n' : Nat} {ad ad' : Nat → Nat} (ha : s_ag n n' ad ad') (hn : n' ≤ s_big) : ∀ {v : Value}, s_vo n v → s_rv ad' v = s_rv ad v
  | .ref k, h => congrArg Value.ref (ha k (h.elim Or.inl (fun z => Or.inr (Nat.le_trans hn z))))
  | .int _, _ => rfl
  | .long _, _ => rfl
  | .float _, _ => rfl
  | .double _, _ => rfl
  | .null, _ => rfl
  | .retAddr _, _ => rfl
theorem s_oe_ag {dA : Nat → ClassId} {n n' : Nat} {ad ad' : Nat → Nat} (ha : s_ag n n' ad ad') (hn : n' ≤ s_big) : ∀ {o : s_O}, s_co n o → s_oe dA ad' o = s_oe dA ad o
  | .inr (ci, fs), h => by
    have e : fs.map (s_rv ad') = fs.map (s_rv ad) := List.map_congr_left (fun v hv => s_rv_ag ha hn (h v hv))
    exact congrArg (fun z => (Sum.inr (ci, z) : va_E)) e
  | .inl (k, l, .inr (.inr (.inr (.inr f)))), h => by
    have e : (fun j => (f j).map ad') = (fun j => (f j).map ad) := funext fun j => by
      cases hf : f j with
      | none => rfl
      | some k => exact congrArg some (ha k ((h j k hf).elim Or.inl (fun z => Or.inr (Nat.le_trans hn z))))
    exact congrArg (fun z => (Sum.inl (dA k, l, Sum.inr (Sum.inr (Sum.inr (Sum.inr z)))) : va_E)) e
  | .inl (_, _, .inl _), _ => rfl
  | .inl (_, _, .inr (.inl _)), _ => rfl
  | .inl (_, _, .inr (.inr (.inl _))), _ => rfl
  | .inl (_, _, .inr (.inr (.inr (.inl _)))), _ => rfl
theorem s_ws_ag {dA : Nat → ClassId} {n n' : Nat} {ad ad' : Nat → Nat} {h : s_H} (ha : s_ag n n' ad ad') (hn : n' ≤ s_big) (hc : s_cl h n) : s_ws dA ad' n h = s_ws dA ad n h := by
  unfold s_ws
  refine List.map_congr_left (fun i hi => ?_)
  have hi := List.mem_range.mp hi
  rw [ha i (Or.inl hi), s_oe_ag ha hn (hc i hi)]
/-- one more object -/
theorem s_ws_new {dA : Nat → ClassId} {n : Nat} {ad : Nat → Nat} {h : s_H} {q : Nat} {o : s_O} (hn : n + 1 ≤ s_big) (hc : s_cl h n) (ho : s_co n o) : s_ws dA (fun k => if k = n then q else ad k) (n + 1) (s_up h n o) = s_ws dA ad n h ++ [(q, s_oe dA ad o)] := by
  have ha : s_ag n (n + 1) ad (fun k => if k = n then q else ad k) := fun k hk => if_neg (by omega)
  have h1 : s_ws dA (fun k => if k = n then q else ad k) n (s_up h n o) = s_ws dA (fun k => if k = n then q else ad k) n h := by
    unfold s_ws
    refine List.map_congr_left (fun i hi => ?_)
    have hi := List.mem_range.mp hi
    rw [s_up_ne h o (by omega)]
  have h2 := s_ws_ag (dA := dA) (h := h) ha hn hc
  rw [← h2, ← h1]
  unfold s_ws
  rw [List.range_succ, List.map_append]
  congr 1
  show [((if n = n then q else ad n), s_oe dA _ (s_up h n o n))] = _
  rw [if_pos rfl, s_up_same, s_oe_ag ha hn ho]
theorem s_L.ag {ls : Array Slot} {nL n n' : Nat} {lv : s_V} {ad ad' : Nat → Nat} (q : s_L ls nL lv ad) (ha : s_ag n n' ad ad') (hn : n' ≤ s_big) (hv : ∀ i v, lv i = some v → s_vo n v) : s_L ls nL lv ad' := ⟨q.1, q.2.1, fun i v z => by rw [s_rv_ag ha hn (hv i v z)]; exact q.2.2 i v z⟩
theorem s_st_ag {n n' : Nat} {ad ad' : Nat → Nat} {st : List Value} (ha : s_ag n n' ad ad') (hn : n' ≤ s_big) (hv : ∀ v ∈ st, s_vo n v) : st.map (s_rv ad') = st.map (s_rv ad) := List.map_congr_left (fun v z => s_rv_ag ha hn (hv v z))
/-- a new array of ints, longs, bytes -/
theorem s_dA {D : va_G} {cl : List vw_C} {tys : List (ClassId × FieldType)} {s : State} {cA cB : ClassId} {ty : FieldType} {i : Nat} (hK : va_K D cl (tys ++ [(cA, ty)]) s) (hi : tys[i]? = some (cB, ty)) (ht : ∀ u cX, va_RA u cX ty ↔ u.vm.findClass ("[" ++ ty.toString) = some cX) : cA = cB := by
  have h1 := (hK.2 tys.length (cA, ty) (by rw [List.getElem?_append_right (Nat.le_refl _), Nat.sub_self]; rfl)).2
  have hlt : i < tys.length := (List.getElem?_eq_some_iff.mp hi).1
  have h2 := (hK.2 i (cB, ty) (by rw [List.getElem?_append_left hlt]; exact hi)).2
  have e1 := (ht _ _).mp h1
  have e2 := (ht _ _).mp h2
  exact Option.some.inj (e1.symm.trans e2)
theorem g_newaI {T : s_T} {Φ : s_P} {pc : Nat} {lv : s_V} {st : List Value} {h : s_H} {n kc ks N' : Nat} {x : Int32} (hd : decode T.2.1 pc = .ok (.newarray .int, 2)) (hw : Cond.arrayClass .int ∈ s_WL) (hx : x = nI N') (hN : N' ≤ 10000) (hn9 : n + 1 ≤ s_big) (hcl : s_cl h n) (hlv : ∀ i v, lv i = some v → s_vo n v) (hst : ∀ v ∈ st, s_vo n v) (hc : 1 ≤ kc) (hs : N' ≤ ks)
    (k : ∀ h1, h1 = s_up h n (.inl (0, N', .inl (fun _ => 0))) → s_cl h1 (n + 1) → s_G T Φ (pc + 2) lv (.ref n :: st) h1 (n + 1) (kc - 1) (ks - N')) : s_G T Φ pc lv (.int x :: st) h n kc ks := by
  intro p l e R s m args below meth c X ad0 n0 A mc ms Qm C ad H locs cells slots ls S
  obtain ⟨hn0, hn9', hag, hP0, hD0, hS0, hc0, hs0, hL0⟩ := S
  subst hx
  refine va_newa (atype := .int) (N' := N') (a0 := (N', .inl (fun _ => 0))) C.1 C.2.1 (C.2.2.2.2.2.1 _ hw) rfl C.2.2.2.2.2.2.2.2.2.2.1 hP0 hD0 hS0 C.2.2.2.2.2.2.2.2.2.1 (fun cA => rfl) (Int32.not_lt.mpr (nI_le (a := 0) (by omega) (by omega))) (nI_clamp (by omega)) (by show N' * 4 ≤ _; omega) (by have := C.2.2.2.2.2.2.2.2.2.2.2.2.2.1.2.2.1; omega) (by have := C.2.2.2.2.2.2.2.2.2.2.2.2.2.1.2.2.2; omega) hd (fun q cA H1 hK1 hP1 hD1 hS1 => ?_)
  have eA : cA = X.2 0 := s_dA (i := 0) hK1 rfl (fun u cX => Iff.rfl)
  subst eA
  have ha : s_ag n (n + 1) ad (fun k => if k = n then q else ad k) := fun k hk => if_neg (by omega)
  have eW := s_ws_new (dA := X.2) (ad := ad) (q := q) (o := .inl (0, N', .inl (fun _ => 0))) hn9 hcl trivial
  have hcl1 : s_cl (s_up h n (.inl (0, N', .inl (fun _ => 0)))) (n + 1) := hcl.up rfl (Nat.le_succ n) trivial (fun j a b => by omega)
  have z := k _ rfl hcl1 p l e R s m args below meth c X ad0 n0 A mc ms Qm C (fun k => if k = n then q else ad k) H1 locs (cells + 1) (slots + N') ls ⟨by omega, hn9, hag.trans hn0 (Nat.le_succ n) ha, by rw [eW]; exact hP1, by rw [eW]; exact hD1, hS1, by omega, by omega, hL0.ag ha hn9 hlv⟩
  have e2 : (Value.ref n :: st).map (s_rv (fun k => if k = n then q else ad k)) = .ref q :: st.map (s_rv ad) := by
    rw [List.map_cons, s_st_ag ha hn9 hst]
    show Value.ref (if n = n then q else ad n) :: _ = _
    rw [if_pos rfl]
  rw [e2] at z
  exact z

theorem g_newaL {T : s_T} {Φ : s_P} {pc : Nat} {lv : s_V} {st : List Value} {h : s_H} {n kc ks N' : Nat} {x : Int32} (hd : decode T.2.1 pc = .ok (.newarray .long, 2)) (hw : Cond.arrayClass .long ∈ s_WL) (hx : x = nI N') (hN : N' ≤ 10000) (hn9 : n + 1 ≤ s_big) (hcl : s_cl h n) (hlv : ∀ i v, lv i = some v → s_vo n v) (hst : ∀ v ∈ st, s_vo n v) (hc : 1 ≤ kc) (hs : N' ≤ ks)
    (k : ∀ h1, h1 = s_up h n (.inl (1, N', .inr (.inl (fun _ => 0)))) → s_cl h1 (n + 1) → s_G T Φ (pc + 2) lv (.ref n :: st) h1 (n + 1) (kc - 1) (ks - N')) : s_G T Φ pc lv (.int x :: st) h n kc ks := by
  intro p l e R s m args below meth c X ad0 n0 A mc ms Qm C ad H locs cells slots ls S
  obtain ⟨hn0, hn9', hag, hP0, hD0, hS0, hc0, hs0, hL0⟩ := S
  subst hx
  refine va_newa (atype := .long) (N' := N') (a0 := (N', .inr (.inl (fun _ => 0)))) C.1 C.2.1 (C.2.2.2.2.2.1 _ hw) rfl C.2.2.2.2.2.2.2.2.2.2.1 hP0 hD0 hS0 C.2.2.2.2.2.2.2.2.2.1 (fun cA => rfl) (Int32.not_lt.mpr (nI_le (a := 0) (by omega) (by omega))) (nI_clamp (by omega)) (by show N' * 8 ≤ _; omega) (by have := C.2.2.2.2.2.2.2.2.2.2.2.2.2.1.2.2.1; omega) (by have := C.2.2.2.2.2.2.2.2.2.2.2.2.2.1.2.2.2; omega) hd (fun q cA H1 hK1 hP1 hD1 hS1 => ?_)
  have eA : cA = X.2 1 := s_dA (i := 1) hK1 rfl (fun u cX => Iff.rfl)
  subst eA
  have ha : s_ag n (n + 1) ad (fun k => if k = n then q else ad k) := fun k hk => if_neg (by omega)
  have eW := s_ws_new (dA := X.2) (ad := ad) (q := q) (o := .inl (1, N', .inr (.inl (fun _ => 0)))) hn9 hcl trivial
  have hcl1 : s_cl (s_up h n (.inl (1, N', .inr (.inl (fun _ => 0))))) (n + 1) := hcl.up rfl (Nat.le_succ n) trivial (fun j a b => by omega)
  have z := k _ rfl hcl1 p l e R s m args below meth c X ad0 n0 A mc ms Qm C (fun k => if k = n then q else ad k) H1 locs (cells + 1) (slots + N') ls ⟨by omega, hn9, hag.trans hn0 (Nat.le_succ n) ha, by rw [eW]; exact hP1, by rw [eW]; exact hD1, hS1, by omega, by omega, hL0.ag ha hn9 hlv⟩
  have e2 : (Value.ref n :: st).map (s_rv (fun k => if k = n then q else ad k)) = .ref q :: st.map (s_rv ad) := by
    rw [List.map_cons, s_st_ag ha hn9 hst]
    show Value.ref (if n = n then q else ad n) :: _ = _
    rw [if_pos rfl]
  rw [e2] at z
  exact z

theorem g_newaB {T : s_T} {Φ : s_P} {pc : Nat} {lv : s_V} {st : List Value} {h : s_H} {n kc ks N' : Nat} {x : Int32} (hd : decode T.2.1 pc = .ok (.newarray .byte, 2)) (hw : Cond.arrayClass .byte ∈ s_WL) (hx : x = nI N') (hN : N' ≤ 10000) (hn9 : n + 1 ≤ s_big) (hcl : s_cl h n) (hlv : ∀ i v, lv i = some v → s_vo n v) (hst : ∀ v ∈ st, s_vo n v) (hc : 1 ≤ kc) (hs : N' ≤ ks)
    (k : ∀ h1, h1 = s_up h n (.inl (2, N', .inl (fun _ => 0))) → s_cl h1 (n + 1) → s_G T Φ (pc + 2) lv (.ref n :: st) h1 (n + 1) (kc - 1) (ks - N')) : s_G T Φ pc lv (.int x :: st) h n kc ks := by
  intro p l e R s m args below meth c X ad0 n0 A mc ms Qm C ad H locs cells slots ls S
  obtain ⟨hn0, hn9', hag, hP0, hD0, hS0, hc0, hs0, hL0⟩ := S
  subst hx
  refine va_newa (atype := .byte) (N' := N') (a0 := (N', .inl (fun _ => 0))) C.1 C.2.1 (C.2.2.2.2.2.1 _ hw) rfl C.2.2.2.2.2.2.2.2.2.2.1 hP0 hD0 hS0 C.2.2.2.2.2.2.2.2.2.1 (fun cA => rfl) (Int32.not_lt.mpr (nI_le (a := 0) (by omega) (by omega))) (nI_clamp (by omega)) (by show N' * 1 ≤ _; omega) (by have := C.2.2.2.2.2.2.2.2.2.2.2.2.2.1.2.2.1; omega) (by have := C.2.2.2.2.2.2.2.2.2.2.2.2.2.1.2.2.2; omega) hd (fun q cA H1 hK1 hP1 hD1 hS1 => ?_)
  have eA : cA = X.2 2 := s_dA (i := 2) hK1 rfl (fun u cX => Iff.rfl)
  subst eA
  have ha : s_ag n (n + 1) ad (fun k => if k = n then q else ad k) := fun k hk => if_neg (by omega)
  have eW := s_ws_new (dA := X.2) (ad := ad) (q := q) (o := .inl (2, N', .inl (fun _ => 0))) hn9 hcl trivial
  have hcl1 : s_cl (s_up h n (.inl (2, N', .inl (fun _ => 0)))) (n + 1) := hcl.up rfl (Nat.le_succ n) trivial (fun j a b => by omega)
  have z := k _ rfl hcl1 p l e R s m args below meth c X ad0 n0 A mc ms Qm C (fun k => if k = n then q else ad k) H1 locs (cells + 1) (slots + N') ls ⟨by omega, hn9, hag.trans hn0 (Nat.le_succ n) ha, by rw [eW]; exact hP1, by rw [eW]; exact hD1, hS1, by omega, by omega, hL0.ag ha hn9 hlv⟩
  have e2 : (Value.ref n :: st).map (s_rv (fun k => if k = n then q else ad k)) = .ref q :: st.map (s_rv ad) := by
    rw [List.map_cons, s_st_ag ha hn9 hst]
    show Value.ref (if n = n then q else ad n) :: _ = _
    rw [if_pos rfl]
  rw [e2] at z
  exact z
/-- a new object -/
theorem g_new {T : s_T} {Φ : s_P} {pc : Nat} {lv : s_V} {st : List Value} {h : s_H} {n kc ks : Nat} {idx ci : Nat} {q9 : vw_C} {fs : List Value} (ty : Nat → FieldType) (hd : decode T.2.1 pc = .ok (.new idx, 3)) (hci : vwCl[ci]? = some q9) (hws : ∀ w ∈ u_ws q9.1 q9.2.1 q9.2.2, w ∈ s_WL) (hty : ∀ k, k < q9.2.2 → parseFieldDescriptor (q9.2.1 k).2.2.1 = some (ty k)) (hcl9 : Cond.classLink T.1.cls idx q9.1 ∈ s_WL) (hinst : Cond.instantiable q9.1 q9.2.2 ∈ s_WL) (hini : Cond.initialized q9.1 ∈ s_WL) (hfs : ∀ j, j < q9.2.2 → defaultValue (ty j) = vp_V fs j) (hvo : ∀ v ∈ fs, s_vo n v) (hn9 : n + 1 ≤ s_big) (hcl : s_cl h n) (hlv : ∀ i v, lv i = some v → s_vo n v) (hst : ∀ v ∈ st, s_vo n v) (hc : 1 ≤ kc) (hs : q9.2.2 ≤ ks)
    (k : ∀ h1, h1 = s_up h n (.inr (ci, fs)) → s_cl h1 (n + 1) → s_G T Φ (pc + 3) lv (.ref n :: st) h1 (n + 1) (kc - 1) (ks - q9.2.2)) : s_G T Φ pc lv st h n kc ks := by
  intro p l e R s m args below meth c X ad0 n0 A mc ms Qm C ad H locs cells slots ls S
  obtain ⟨hn0, hn9', hag, hP0, hD0, hS0, hc0, hs0, hL0⟩ := S
  have hfsm : fs.map (s_rv ad) = fs.map (s_rv ad) := rfl
  have hfv : ∀ j, j < q9.2.2 → defaultValue (ty j) = vp_V (fs.map (s_rv ad)) j := fun j hj => by
    have h1 := hfs j hj
    rw [h1]
    show fs.getD j .null = (fs.map (s_rv ad)).getD j .null
    rw [List.getD_eq_getElem?_getD, List.getD_eq_getElem?_getD, List.getElem?_map]
    cases hg : fs[j]? with
    | none => rfl
    | some v =>
      have h2 : defaultValue (ty j) = v := by
        rw [h1]
        show fs.getD j .null = v
        rw [List.getD_eq_getElem?_getD, hg]
        rfl
      show v = s_rv ad v
      rw [← h2]
      cases ty j <;> rfl
  refine va_new (Ts := s_WL) (C := q9.1) (T := q9.2.1) (N := q9.2.2) (ci := ci) C.1 C.2.1 C.2.2.2.2.2.1 hws ty hty C.2.2.2.2.1 (C.2.2.2.2.2.1 _ hcl9) (C.2.2.2.2.2.1 _ hinst) (C.2.2.2.2.2.1 _ hini) C.2.2.2.2.2.2.2.2.2.2.1 hP0 hD0 hS0 C.2.2.2.2.2.2.2.2.2.1 hci hfv (by have := C.2.2.2.2.2.2.2.2.2.2.2.2.2.1.2.2.1; omega) (by have := C.2.2.2.2.2.2.2.2.2.2.2.2.2.1.2.2.2; omega) hd (fun q H1 hP1 hD1 hS1 => ?_)
  have ha : s_ag n (n + 1) ad (fun k => if k = n then q else ad k) := fun k hk => if_neg (by omega)
  have eW := s_ws_new (dA := X.2) (ad := ad) (q := q) (o := .inr (ci, fs)) hn9 hcl hvo
  have hcl1 : s_cl (s_up h n (.inr (ci, fs))) (n + 1) := hcl.up rfl (Nat.le_succ n) (fun v hv => (hvo v hv).le (Nat.le_succ n)) (fun j a b => by omega)
  have z := k _ rfl hcl1 p l e R s m args below meth c X ad0 n0 A mc ms Qm C (fun k => if k = n then q else ad k) H1 locs (cells + 1) (slots + q9.2.2) ls ⟨by omega, hn9, hag.trans hn0 (Nat.le_succ n) ha, by rw [eW]; exact hP1, by rw [eW]; exact hD1, hS1, by omega, by omega, hL0.ag ha hn9 hlv⟩
  have e2 : (Value.ref n :: st).map (s_rv (fun k => if k = n then q else ad k)) = .ref q :: st.map (s_rv ad) := by
    rw [List.map_cons, s_st_ag ha hn9 hst]
    show Value.ref (if n = n then q else ad n) :: _ = _
    rw [if_pos rfl]
  rw [e2] at z
  exact z
/-- a call of a method that makes objects, and does not throw -/
theorem g_callN {T : s_T} {Φ : s_P} {pc : Nat} {lv : s_V} {st : List Value} {h : s_H} {n kc ks : Nat} {rest : List Value} {Ψ : s_P} {mc' ms' : Nat} (hmc : mc' ≤ kc) (hms : ms' ≤ ks) (hx : ∀ E h' n', ¬ Ψ (.inr E) h' n') (hlv : ∀ i v, lv i = some v → s_vo n v) (hre : ∀ v ∈ rest, s_vo n v)
    (hrun : ∀ (p : Program) (l : Launch) (e : Env) (R : Room) (s : State) (m : MethodId) (args : Array Value) (below : List Frame) (meth : Method) (c : Code) (X : va_G × (Nat → ClassId)) (ad0 : Nat → Nat) (n0 : Nat) (A : Nat → Prop) (mc ms : Nat) (Qm : State → Prop), s_C T Φ p l e R s m args below meth c X ad0 n0 A mc ms Qm → ∀ (ad : Nat → Nat) (H : Heap) (locs : List Loc) (cells slots : Nat) (ls : Array Slot), s_S T.2.2.1 s X ad0 n0 A mc ms lv h n kc ks ad H locs cells slots ls →
      ∃ a, vx_Run p l e R s m args below meth c H locs cells slots mc' ms' (F0 m pc ls (st.map (s_rv ad))) (rest.map (s_rv ad)) (s_Q X ad n h Ψ a) (s_XQ X ad n h Ψ) (va_A (s_ws X.2 ad n h) H.size))
    (kk : ∀ v h' n', Ψ (.inl v) h' n' → n ≤ n' → s_G T Φ (pc + 3) lv (v.toList ++ rest) h' n' (kc - mc') (ks - ms')) : s_G T Φ pc lv st h n kc ks := by
  intro p l e R s m args below meth c X ad0 n0 A mc ms Qm C ad H locs cells slots ls S
  obtain ⟨a, hr⟩ := hrun p l e R s m args below meth c X ad0 n0 A mc ms Qm C ad H locs cells slots ls S
  intro Tm hT Xs
  have hfr := s_free C S
  obtain ⟨hn0, hn9, hag, hP0, hD0, hS0, hc0, hs0, hL0⟩ := S
  rcases hr Tm hT Xs with ⟨v, st₀, t, T', L, q0, X', hL, e1, e2, ⟨⟨v', h', n', ad', hv, hΨ, hn, hn9', hag', hP, hD⟩, hF⟩, go⟩ | ⟨q, st₀, t, T', L, E, ce, q0, X', hL, e1, e2, ⟨⟨h', n', ad', hΨ, hn, hn9', hag', hP, hD⟩, hF⟩, hce, hcv, hcl, st'⟩
  · cases hv
    have hk := vx_keep (A0 := A) (H0 := s.heap) q0 e1 hS0 (A1 := va_A (s_ws X.2 ad n h) st₀.heap.size) (by rw [q0]; exact fun q _ z => hfr q z) hfr hL hF
    have hD1 : va_D A (s_ws X.2 ad' n' h') := hD.weaken (fun k q _ z => hfr q.1 (by rw [q0] at z; exact z))
    obtain ⟨t2, a2, b2⟩ := kk v' h' n' hΨ hn p l e R s m args below meth c X ad0 n0 A mc ms Qm C ad' T'.heap (locs ++ L) (cells + mc') (slots + ms') ls ⟨Nat.le_trans hn0 hn, hn9', hag.trans hn0 hn hag', by rw [e1]; exact hP, hD1, hk.2.2, by omega, by omega, hL0.ag hag' hn9' hlv⟩ T' rfl X'
    refine ⟨t2, go t2 ?_, b2⟩
    have e3 : (v'.toList ++ rest).map (s_rv ad') = (v'.map (s_rv ad')).toList ++ rest.map (s_rv ad) := by
      rw [List.map_append, s_st_ag hag' hn9' hre]
      cases v' <;> rfl
    rw [e3] at a2
    exact a2
  · exact absurd hΨ (hx _ _ _)
theorem g_callIg {T : s_T} {Φ : s_P} {pc : Nat} {lv : s_V} {st : List Value} {h : s_H} {n kc ks : Nat} {T' : s_T} {as rest : List Value} {b : Nat} {Ψ : s_P} {mc' ms' idx na : Nat} (M : s_Mt T' mc' ms' (.ref b :: as) h n Ψ) (hd : decode T.2.1 pc = .ok (.invokespecial idx, 3)) (cm : s_cm T' na) (hh : T'.2.2.2.2.1 = []) (hl : Cond.methodLink T.1.cls idx T'.1 ∈ s_WL) (hi : Cond.instanceMethod T'.1 ∈ s_WL) (hin : T'.1.name = "<init>") (hre : T'.2.2.2.1 = none) (hdep : T'.2.2.2.2.2 + 1 ≤ T.2.2.2.2.2) (hst : st = as.reverse ++ .ref b :: rest) (hna : as.length = na) (hc : (rest.map fun v => v.category).sum ≤ 8) (hmc : mc' ≤ kc) (hms : ms' ≤ ks) (hx : ∀ E h' n', ¬ Ψ (.inr E) h' n') (hlv : ∀ i v, lv i = some v → s_vo n v) (hrs : ∀ v ∈ rest, s_vo n v)
    (kk : ∀ v h' n', Ψ (.inl v) h' n' → n ≤ n' → s_G T Φ (pc + 3) lv (v.toList ++ rest) h' n' (kc - mc') (ks - ms')) : s_G T Φ pc lv st h n kc ks := by
  refine g_callN (rest := rest) hmc hms hx hlv hrs ?_ kk
  intro p l e R s m args below meth c X ad0 n0 A mc ms Qm C ad H locs cells slots ls S
  have hM := M l C.2.2.2.2.2.2.2.2.1 X ad H.size
  have hR := s_room (mc' := mc') (ms' := ms') C.2.2.2.2.2.2.2.2.2.2.2.2.2.1 hdep cm.2.2.1
  exact ⟨_, vx_runI ⟨C.1, C.2.1, C.2.2.1, C.2.2.2.2.1, C.2.2.2.2.2.1⟩ hM (cwI (bytes := T'.2.1) (maxL := T'.2.2.1) (ws' := s_WL) na C.2.2.2.2.2.1 (s_good (s_in2 cm.1)) (by rw [s_hd_of hh, hre]) rfl rfl (C.2.2.2.2.2.1 _ cm.2.2.2) (C.2.2.2.2.2.1 _ hl) (C.2.2.2.2.2.1 _ hi) hin cm.2.1 hR) (s_pre C S (.ref b :: as)) rfl (by rw [List.length_map]; exact hna) S.2.2.2.2.2.2.2.2.1 (by rw [hst]; simp [s_rv]) (lv_room (s_cats hc)) hd ⟨Nat.le_trans (Nat.add_le_add_left hmc _) (Nat.le_trans S.2.2.2.2.2.2.1 C.2.2.2.2.2.2.2.2.2.2.2.2.2.1.2.2.1), Nat.le_trans (Nat.add_le_add_left hms _) (Nat.le_trans S.2.2.2.2.2.2.2.1 C.2.2.2.2.2.2.2.2.2.2.2.2.2.1.2.2.2)⟩⟩
theorem g_callINg {T : s_T} {Φ : s_P} {pc : Nat} {lv : s_V} {st : List Value} {h : s_H} {n kc ks : Nat} {T' : s_T} {as rest : List Value} {b : Nat} {Ψ : s_P} {mc' ms' idx na : Nat} (M : s_Mt T' mc' ms' (.ref b :: as) h n Ψ) (hd : decode T.2.1 pc = .ok (.invokespecial idx, 3)) (cm : s_cm T' na) (hh : T'.2.2.2.2.1 = []) (hl : Cond.methodLinkNest T.1.cls idx T'.1 "BackupPlanner" ∈ s_NW) (hi : Cond.instanceMethod T'.1 ∈ s_WL) (hin : T'.1.name = "<init>") (hre : T'.2.2.2.1 = none) (hdep : T'.2.2.2.2.2 + 1 ≤ T.2.2.2.2.2) (hst : st = as.reverse ++ .ref b :: rest) (hna : as.length = na) (hc : (rest.map fun v => v.category).sum ≤ 8) (hmc : mc' ≤ kc) (hms : ms' ≤ ks) (hx : ∀ E h' n', ¬ Ψ (.inr E) h' n') (hlv : ∀ i v, lv i = some v → s_vo n v) (hrs : ∀ v ∈ rest, s_vo n v)
    (kk : ∀ v h' n', Ψ (.inl v) h' n' → n ≤ n' → s_G T Φ (pc + 3) lv (v.toList ++ rest) h' n' (kc - mc') (ks - ms')) : s_G T Φ pc lv st h n kc ks := by
  refine g_callN (rest := rest) hmc hms hx hlv hrs ?_ kk
  intro p l e R s m args below meth c X ad0 n0 A mc ms Qm C ad H locs cells slots ls S
  have hM := M l C.2.2.2.2.2.2.2.2.1 X ad H.size
  have hR := s_room (mc' := mc') (ms' := ms') C.2.2.2.2.2.2.2.2.2.2.2.2.2.1 hdep cm.2.2.1
  exact ⟨_, vx_runIN ⟨C.1, C.2.1, C.2.2.1, C.2.2.2.2.1, C.2.2.2.2.2.1⟩ hM ⟨va_cnB (bytes := T'.2.1) (maxL := T'.2.2.1) (ret := none) (ws' := s_WL) na C.2.2.2.2.2.1 (s_good (s_in2 cm.1)) (by rw [s_hd_of hh, hre]) rfl rfl (C.2.2.2.2.2.2.2.2.2.2.2.1.1.1 _ hl) (C.2.2.2.2.2.1 _ cm.2.2.2) cm.2.1 hR, hin, C.2.2.2.2.2.1 _ hi⟩ (s_pre C S (.ref b :: as)) rfl (by rw [List.length_map]; exact hna) S.2.2.2.2.2.2.2.2.1 (by rw [hst]; simp [s_rv]) (lv_room (s_cats hc)) hd ⟨Nat.le_trans (Nat.add_le_add_left hmc _) (Nat.le_trans S.2.2.2.2.2.2.1 C.2.2.2.2.2.2.2.2.2.2.2.2.2.1.2.2.1), Nat.le_trans (Nat.add_le_add_left hms _) (Nat.le_trans S.2.2.2.2.2.2.2.1 C.2.2.2.2.2.2.2.2.2.2.2.2.2.1.2.2.2)⟩⟩
