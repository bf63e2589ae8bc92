/-! ROWS THAT MAKE OBJECTS: Object.<init>, arrays of references -/
theorem g_objInit {T : s_T} {Φ : s_P} {pc : Nat} {lv : s_V} {rest : List Value} {h : s_H} {n kc ks idx b : Nat} (hd : decode T.2.1 pc = .ok (.invokespecial idx, 3)) (hl : Cond.methodLink T.1.cls idx Lib.objectInit ∈ s_WL) (hi : Cond.instanceMethod Lib.objectInit ∈ s_WL) (hcode : Cond.code Lib.objectInit ⟨#[0xb1]⟩ 1 none ∈ s_WL) (hc : (rest.map fun v => v.category).sum ≤ 8) (k : s_G T Φ (pc + 3) lv rest h n kc ks) : s_G T Φ pc lv (.ref b :: rest) h n kc ks := by
  intro p l e R s m args below meth c X ad0 n0 A mc ms Qm C ad H locs cells slots ls S
  have hroom := C.2.2.2.2.2.2.2.2.2.2.2.2.2.1
  have hcs := s_cats (ad := ad) hc
  refine W.objInit (a := ad b) (rest := rest.map (s_rv ad)) C.1 C.2.1 C.2.2.2.2.1 (C.2.2.2.2.2.1 _ hl) (C.2.2.2.2.2.1 _ hi) (C.2.2.2.2.2.1 _ hcode) rfl (by rw [C.2.2.1]; exact S.2.2.2.2.2.2.2.2.1) rfl hd (by omega) ?_ (k p l e R s m args below meth c X ad0 n0 A mc ms Qm C ad H locs cells slots ls S)
  show 2 * 0 + _ + 12 ≤ _
  omega
theorem s_dA' {D : va_G} {cl : List vw_C} {tys : List (ClassId × FieldType)} {s : State} {cA cB : ClassId} {ty : FieldType} {i : Nat} (hK : va_K D cl (tys ++ [(cA, ty)]) s) (hi : tys[i]? = some (cB, ty)) (ht : ∀ u cX, va_RA u cX ty → u.vm.findClass ("[" ++ ty.toString) = some cX) : cA = cB := by
  have h1 := (hK.2 tys.length (cA, ty) (by rw [List.getElem?_append_right (Nat.le_refl _), Nat.sub_self]; rfl)).2
  have hlt : i < tys.length := (List.getElem?_eq_some_iff.mp hi).1
  have h2 := (hK.2 i (cB, ty) (by rw [List.getElem?_append_left hlt]; exact hi)).2
  exact Option.some.inj ((ht _ _ h1).symm.trans (ht _ _ h2))
/-- a new array of disks -/
theorem g_newqD {T : s_T} {Φ : s_P} {pc : Nat} {lv : s_V} {st : List Value} {h : s_H} {n kc ks N' idx : Nat} {x : Int32} (hd : decode T.2.1 pc = .ok (.anewarray idx, 3)) (hw : Cond.classLink T.1.cls idx "BackupPlanner$Disk" ∈ s_WL) (hx : x = nI N') (hN : N' ≤ 10000) (hn9 : n + 1 ≤ s_big) (hcl : s_cl h n) (hlv : ∀ i v, lv i = some v → s_vo n v) (hst : ∀ v ∈ st, s_vo n v) (hc : 1 ≤ kc) (hs : N' ≤ ks)
    (k : ∀ h1, h1 = s_up h n (.inl (3, N', .inr (.inr (.inr (.inr (fun _ => none)))))) → s_cl h1 (n + 1) → s_G T Φ (pc + 3) lv (.ref n :: st) h1 (n + 1) (kc - 1) (ks - N')) : s_G T Φ pc lv (.int x :: st) h n kc ks := by
  intro p l e R s m args below meth c X ad0 n0 A mc ms Qm C ad H locs cells slots ls S
  obtain ⟨hn0, hn9', hag, hP0, hD0, hS0, hc0, hs0, hL0⟩ := S
  subst hx
  have hAO : va_AO "BackupPlanner$Disk" s := C.2.2.2.2.2.2.2.2.2.2.2.1.1.1 (.arrayOver (.object "BackupPlanner$Disk")) (by decide)
  refine va_newq (N' := N') C.1 C.2.1 C.2.2.2.2.1 (C.2.2.2.2.2.1 _ hw) hAO C.2.2.2.2.2.2.2.2.2.2.1 hP0 hD0 hS0 C.2.2.2.2.2.2.2.2.2.1 (Int32.not_lt.mpr (nI_le (a := 0) (by omega) (by omega))) (nI_clamp (by omega)) (by omega) (by have := C.2.2.2.2.2.2.2.2.2.2.2.2.2.1.2.2.1; omega) (by have := C.2.2.2.2.2.2.2.2.2.2.2.2.2.1.2.2.2; omega) hd (fun q cA H1 hK1 hP1 hD1 hS1 => ?_)
  have eA : cA = X.2 3 := s_dA' (i := 3) hK1 rfl (fun u cX z => by
    obtain ⟨_, _, _, _, _, z⟩ := z
    exact z)
  subst eA
  have ha : s_ag n (n + 1) ad (fun k => if k = n then q else ad k) := fun k hk => if_neg (by omega)
  have hco : s_co n (.inl (3, N', .inr (.inr (.inr (.inr (fun _ => none)))))) := fun j k z => by cases z
  have eW := s_ws_new (dA := X.2) (ad := ad) (q := q) (o := .inl (3, N', .inr (.inr (.inr (.inr (fun _ => none)))))) hn9 hcl hco
  have hcl1 : s_cl (s_up h n (.inl (3, N', .inr (.inr (.inr (.inr (fun _ => none))))))) (n + 1) := hcl.up rfl (Nat.le_succ n) (fun j k z => by cases z) (fun j a b => by omega)
  have z := k _ rfl hcl1 p l e R s m args below meth c X ad0 n0 A mc ms Qm C (fun k => if k = n then q else ad k) H1 locs (cells + 1) (slots + N') ls ⟨by omega, hn9, hag.trans hn0 (Nat.le_succ n) ha, by rw [eW]; exact hP1, by rw [eW]; exact hD1, hS1, by omega, by omega, hL0.ag ha hn9 hlv⟩
  have e2 : (Value.ref n :: st).map (s_rv (fun k => if k = n then q else ad k)) = .ref q :: st.map (s_rv ad) := by
    rw [List.map_cons, s_st_ag ha hn9 hst]
    show Value.ref (if n = n then q else ad n) :: _ = _
    rw [if_pos rfl]
  rw [e2] at z
  exact z
/-- an array of arrays, its rows behind it -/
def s_mn (h : s_H) (n N' : Nat) (o r : s_O) : s_H := fun k => if k = n then o else if n < k ∧ k ≤ n + N' then r else h k
theorem s_mn_0 {h : s_H} {n N' : Nat} {o r : s_O} : s_mn h n N' o r n = o := if_pos rfl
theorem s_mn_1 {h : s_H} {n N' i : Nat} {o r : s_O} (hi : i < N') : s_mn h n N' o r (n + 1 + i) = r := (if_neg (by omega)).trans (if_pos (by omega))
theorem s_mn_lt {h : s_H} {n N' i : Nat} {o r : s_O} (hi : i < n) : s_mn h n N' o r i = h i := (if_neg (by omega)).trans (if_neg (by omega))
def s_mo (k n N' : Nat) : s_O := .inl (k, N', .inr (.inr (.inr (.inr (fun i => if i < N' then some (n + 1 + i) else none)))))
def s_ma (ad : Nat → Nat) (n N' q : Nat) (r : Nat → Nat) : Nat → Nat := fun k => if k = n then q else if n < k ∧ k ≤ n + N' then r (k - n - 1) else ad k
theorem s_ma_1 {ad : Nat → Nat} {n N' q i : Nat} {r : Nat → Nat} (hi : i < N') : s_ma ad n N' q r (n + 1 + i) = r i := by
  unfold s_ma
  rw [if_neg (by omega), if_pos (by omega), show n + 1 + i - n - 1 = i by omega]
theorem s_ma_ag {ad : Nat → Nat} {n N' q : Nat} {r : Nat → Nat} : s_ag n (n + 1 + N') ad (s_ma ad n N' q r) := fun k hk => (if_neg (by omega)).trans (if_neg (by omega))
theorem s_ws_mn {dA : Nat → ClassId} {n N' k q : Nat} {ad r : Nat → Nat} {h : s_H} {row : s_O} {f : Nat → va_E} {e : va_E} (hn : n + 1 + N' ≤ s_big) (hc : s_cl h n) (he : s_oe dA (s_ma ad n N' q r) row = e) :
    s_ws dA (s_ma ad n N' q r) (n + 1 + N') (s_mn h n N' (s_mo k n N') row) = (s_ws dA ad n h ++ [(q, .inl (dA k, N', .inr (.inr (.inr (.inr (fun i => if i < N' then some (r i) else none))))))]) ++ va_pl ([] ++ (List.range N').map r) (vr_up f ((List.range N').map r) e) := by
  have h1 : (List.range n).map (fun i => (s_ma ad n N' q r i, s_oe dA (s_ma ad n N' q r) (s_mn h n N' (s_mo k n N') row i))) = s_ws dA ad n h := by
    unfold s_ws
    refine List.map_congr_left (fun i hi => ?_)
    have hi := List.mem_range.mp hi
    rw [s_mn_lt hi, s_ma_ag i (Or.inl hi), s_oe_ag s_ma_ag hn (hc i hi)]
  have h2 : (s_ma ad n N' q r n, s_oe dA (s_ma ad n N' q r) (s_mn h n N' (s_mo k n N') row n)) = (q, (Sum.inl (dA k, N', .inr (.inr (.inr (.inr (fun i => if i < N' then some (r i) else none))))) : va_E)) := by
    rw [s_mn_0]
    have e1 : s_ma ad n N' q r n = q := if_pos rfl
    have e2 : (fun i => (if i < N' then some (n + 1 + i) else none : Option Nat).map (s_ma ad n N' q r)) = (fun i => if i < N' then some (r i) else none) := funext fun i => by
      by_cases z : i < N'
      · rw [if_pos z, if_pos z]
        exact congrArg some (s_ma_1 z)
      · rw [if_neg z, if_neg z]
        rfl
    rw [e1]
    exact congrArg (fun z => (q, (Sum.inl (dA k, N', Sum.inr (Sum.inr (Sum.inr (Sum.inr z)))) : va_E))) e2
  have h3 : (List.range N').map (fun i => (s_ma ad n N' q r (n + 1 + i), s_oe dA (s_ma ad n N' q r) (s_mn h n N' (s_mo k n N') row (n + 1 + i)))) = va_pl ([] ++ (List.range N').map r) (vr_up f ((List.range N').map r) e) := by
    unfold va_pl
    rw [List.nil_append, List.map_map]
    refine List.map_congr_left (fun i hi => ?_)
    have hi9 := List.mem_range.mp hi
    show _ = (r i, vr_up f ((List.range N').map r) e (r i))
    rw [s_ma_1 hi9, s_mn_1 hi9, he, vr_up_in (List.mem_map.mpr ⟨i, hi, rfl⟩)]
  rw [← h1, ← h2, ← h3]
  unfold s_ws
  rw [List.range_add, List.map_append, List.range_succ, List.map_append, List.map_map]
  rfl

theorem g_mnaJ {T : s_T} {Φ : s_P} {pc : Nat} {lv : s_V} {st : List Value} {h : s_H} {n kc ks N' K' idx : Nat} {x y : Int32} (hd : decode T.2.1 pc = .ok (.multianewarray idx 2, 4)) (hw : Cond.classLink T.1.cls idx ("[" ++ (FieldType.array .long).toString) ∈ s_WL) (hw2 : Cond.arrayClass .long ∈ s_WL) (hx : x = nI N') (hy : y = nI K') (hN : N' ≤ 1000) (hK9 : K' ≤ 1000) (hn9 : n + 1 + N' ≤ s_big) (hcl : s_cl h n) (hlv : ∀ i v, lv i = some v → s_vo n v) (hst : ∀ v ∈ st, s_vo n v) (hc : 1 + N' ≤ kc) (hs : N' + N' * K' ≤ ks)
    (k : ∀ h1, h1 = s_mn h n N' (s_mo 4 n N') (.inl (1, K', .inr (.inl (fun _ => 0)))) → s_cl h1 (n + 1 + N') → s_G T Φ (pc + 4) lv (.ref n :: st) h1 (n + 1 + N') (kc - (1 + N')) (ks - (N' + N' * K'))) : s_G T Φ pc lv (.int y :: .int x :: st) h n kc ks := by
  intro p l e R s m args below meth c X ad0 n0 A mc ms Qm C ad H locs cells slots ls S
  obtain ⟨hn0, hn9', hag, hP0, hD0, hS0, hc0, hs0, hL0⟩ := S
  subst hx
  subst hy
  have hAO : va_AOA .long s := C.2.2.2.2.2.2.2.2.2.2.2.1.1.1 (.arrayOver (.array .long)) (by decide)
  have hcy : s.vm.findClass (FieldType.array .long).toString = some (X.2 1) := (C.2.2.2.2.2.2.2.2.2.2.1.2 1 _ rfl).2
  refine va_mna (X := s_ws X.2 ad n h) (L := []) (f := fun _ => .inr (0, [])) (ty := .long) (N' := N') (K' := K') (z := (K', .inr (.inl (fun _ => 0)))) C.1 C.2.1 C.2.2.2.2.1 (C.2.2.2.2.2.1 _ hw) hAO (C.2.2.2.2.2.1 _ hw2) hcy C.2.2.2.2.2.2.2.2.2.2.1 (by show va_P _ _ (_ ++ []) _; rw [List.append_nil]; exact hP0) (by show va_D _ (_ ++ []); rw [List.append_nil]; exact hD0) hS0 C.2.2.2.2.2.2.2.2.2.1 (Int32.not_lt.mpr (nI_le (a := 0) (by omega) (by omega))) (Int32.not_lt.mpr (nI_le (a := 0) (by omega) (by omega))) (nI_clamp (by omega)) (nI_clamp (by omega)) (by omega) (by show K' * 8 ≤ _; omega) (by omega) (by decide) (by decide) (by have := C.2.2.2.2.2.2.2.2.2.2.2.2.2.1.2.2.1; omega) (by have := C.2.2.2.2.2.2.2.2.2.2.2.2.2.1.2.2.2; omega) (fun cX => by
    show ({ cls := cX, slots := Array.replicate K' (defaultValue .long), vm := .none } : Cell) = _
    rw [arrV_new]
    rfl) hd (fun q r cA H1 hr1 hr2 hK1 hP1 hD1 hS1 => ?_)
  have eA : cA = X.2 4 := s_dA' (i := 4) hK1 rfl (fun u cX z => z)
  subst eA
  have ha : s_ag n (n + 1 + N') ad (s_ma ad n N' q r) := s_ma_ag
  have eW := s_ws_mn (dA := X.2) (ad := ad) (q := q) (r := r) (k := 4) (N' := N') (row := .inl (1, K', .inr (.inl (fun _ => 0)))) (f := fun _ => .inr (0, [])) hn9 hcl rfl
  have hcl1 : s_cl (s_mn h n N' (s_mo 4 n N') (.inl (1, K', .inr (.inl (fun _ => 0))))) (n + 1 + N') := fun i hi => by
    by_cases z : i < n
    · rw [s_mn_lt z]; exact (hcl i z).le (by omega)
    · by_cases z2 : i = n
      · rw [z2, s_mn_0]
        intro j y hj
        change (if j < N' then some (n + 1 + j) else none) = some y at hj
        by_cases z3 : j < N'
        · rw [if_pos z3] at hj
          cases hj
          exact Or.inl (by omega)
        · rw [if_neg z3] at hj
          cases hj
      · obtain ⟨j, rfl⟩ : ∃ j, i = n + 1 + j := ⟨i - n - 1, by omega⟩
        rw [s_mn_1 (by omega)]
        trivial
  have z := k _ rfl hcl1 p l e R s m args below meth c X ad0 n0 A mc ms Qm C (s_ma ad n N' q r) H1 locs (cells + 1 + N') (slots + N' + N' * K') ls ⟨by omega, hn9, hag.trans hn0 (by omega) ha, by rw [eW]; exact hP1, by rw [eW]; exact hD1, hS1, by omega, by omega, hL0.ag ha hn9 hlv⟩
  have e2 : (Value.ref n :: st).map (s_rv (s_ma ad n N' q r)) = .ref q :: st.map (s_rv ad) := by
    rw [List.map_cons, s_st_ag ha hn9 hst]
    show Value.ref (s_ma ad n N' q r n) :: _ = _
    rw [show s_ma ad n N' q r n = q from if_pos rfl]
  rw [e2] at z
  exact z
