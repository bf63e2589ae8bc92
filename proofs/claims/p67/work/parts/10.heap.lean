/-! heap rows (written by wip/tools/heap.py) -/
theorem s_S.heap {nL : Nat} {s : State} {X : va_G × (Nat → ClassId)} {ad0 : Nat → Nat} {n0 : Nat} {A : Nat → Prop} {mc ms : Nat} {lv : s_V} {h : s_H} {n kc ks : Nat} {ad : Nat → Nat} {H H1 : Heap} {locs locs1 : List Loc} {cells slots : Nat} {ls : Array Slot} {a : Nat} {o : s_O} {e : va_E}
    (S : s_S nL s X ad0 n0 A mc ms lv h n kc ks ad H locs cells slots ls) (ha : a < n) (he : e = s_oe X.2 ad o) (hP : va_P X.1 vwCl ((s_ws X.2 ad n h).set a (ad a, e)) H1) (hD : va_D A ((s_ws X.2 ad n h).set a (ad a, e))) (hS : va_S A s.heap H1 locs1) :
    s_S nL s X ad0 n0 A mc ms lv (s_up h a o) n kc ks ad H1 locs1 cells slots ls := by
  subst he
  rw [s_ws_set o ha] at hP hD
  exact ⟨S.1, S.2.1, S.2.2.1, hP, hD, hS, S.2.2.2.2.2.2.1, S.2.2.2.2.2.2.2.1, S.2.2.2.2.2.2.2.2⟩
/-- a field by its place in the class's table -/
def s_fw (own : String) (idx ci k : Nat) : Prop := ∃ q : vw_C, vwCl[ci]? = some q ∧ k < q.2.2 ∧ (∀ w ∈ u_ws q.1 q.2.1 q.2.2, w ∈ s_WL) ∧ Cond.fieldLink own idx (q.2.1 k).1 (q.2.1 k).2.1 (q.2.1 k).2.2.1 ∈ s_WL
def s_tyOK (q : vw_C) (ty : Nat → FieldType) : Prop := (∀ k, k < q.2.2 → parseFieldDescriptor (q.2.1 k).2.2.1 = some (ty k)) ∧ (∀ a, a < q.2.2 → ∀ b, b < q.2.2 → a ≠ b → (q.2.1 a).2.1 ≠ (q.2.1 b).2.1)
def s_pw (own : String) (idx ci k : Nat) (t : FieldType) (fin : Bool) : Prop := ∃ q : vw_C, vwCl[ci]? = some q ∧ k < q.2.2 ∧ (∀ w ∈ u_ws q.1 q.2.1 q.2.2, w ∈ s_WL) ∧ Cond.fieldLink own idx (q.2.1 k).1 (q.2.1 k).2.1 (q.2.1 k).2.2.1 ∈ s_WL ∧
  (∃ ty, s_tyOK q ty) ∧ parseFieldDescriptor (q.2.1 k).2.2.1 = some t ∧ (q.2.1 k).2.2.2 = fin
theorem s_narrow {t : FieldType} {v : Value} {ad : Nat → Nat} (h : narrow t v = v) : narrow t (s_rv ad v) = s_rv ad v := by
  cases v with
  | ref k => cases t <;> rfl
  | _ => exact h
theorem s_fits {t : FieldType} {v : Value} {ad : Nat → Nat} (h : fits t v = true) : fits t (s_rv ad v) = true := by
  cases v with
  | ref k => cases t <;> first | exact h | rfl
  | _ => exact h
theorem g_getf {T : s_T} {Φ : s_P} {pc : Nat} {lv : s_V} {st : List Value} {h : s_H} {n kc ks : Nat} {a ci : Nat} {fs : List Value} {idx q0 : Nat} {v : Value} (hd : decode T.2.1 pc = .ok (.getfield idx, 3)) (hw : s_fw T.1.cls idx ci q0) (ho : h a = .inr (ci, fs)) (ha : a < n) (hv : fs[q0]? = some v)
    (k : s_G T Φ (pc + 3) lv (v :: st) h n kc ks) : s_G T Φ pc lv (.ref a :: st) h n kc ks := by
  intro p l e R s m args below meth c X ad0 n0 A mc ms Qm C ad H locs cells slots ls S
  obtain ⟨q, hc, hk, hin, hlink⟩ := hw
  have hat := s_ws_at (dA := X.2) (ad := ad) (h := h) ha
  rw [ho] at hat
  exact va_get (T := q.2.1) C.1 C.2.1 C.2.2.2.2.2.1 hin C.2.2.2.2.1 C.2.2.2.2.2.2.2.2.2.2.1 S.2.2.2.1 a (fs := fs.map (s_rv ad)) (ci := ci) hat hc q0 hk (C.2.2.2.2.2.1 _ hlink) (fun _ h9 => h9) (by rw [List.getElem?_map, hv]; rfl) hd (k p l e R s m args below meth c X ad0 n0 A mc ms Qm C ad H locs cells slots ls S)

theorem g_putf {T : s_T} {Φ : s_P} {pc : Nat} {lv : s_V} {st : List Value} {h : s_H} {n kc ks : Nat} {a ci : Nat} {fs : List Value} {idx q0 : Nat} {v : Value} {t : FieldType} (hd : decode T.2.1 pc = .ok (.putfield idx, 3)) (hw : s_pw T.1.cls idx ci q0 t false) (ho : h a = .inr (ci, fs)) (ha : a < n) (hl : q0 < fs.length) (hn : narrow t v = v) (hf : fits t v = true)
    (k : s_G T Φ (pc + 3) lv st (s_up h a (.inr (ci, fs.set q0 v))) n kc ks) : s_G T Φ pc lv (v :: .ref a :: st) h n kc ks := by
  intro p l e R s m args below meth c X ad0 n0 A mc ms Qm C ad H locs cells slots ls S
  obtain ⟨q, hc, hk, hin, hlink, ⟨ty, hty, hnm⟩, hpd, hfin⟩ := hw
  have hat := s_ws_at (dA := X.2) (ad := ad) (h := h) ha
  rw [ho] at hat
  refine va_put (T := q.2.1) C.1 C.2.1 C.2.2.2.2.2.1 hin ty hty hnm C.2.2.2.2.1 C.2.2.2.2.2.2.2.2.2.2.1 S.2.2.2.1 S.2.2.2.2.1 S.2.2.2.2.2.1 a (fs := fs.map (s_rv ad)) (ci := ci) hat hc q0 hk (C.2.2.2.2.2.1 _ hlink) (fun _ h9 => h9) hfin hpd (s_narrow hn) (s_fits hf) (by rw [List.length_map]; exact hl) hd (fun H1 locs1 hP hD hS => k p l e R s m args below meth c X ad0 n0 A mc ms Qm C ad H1 locs1 cells slots ls (S.heap ha ?_ hP hD hS))
  show (Sum.inr (ci, (fs.map (s_rv ad)).set q0 (s_rv ad v)) : va_E) = Sum.inr (ci, (fs.set q0 v).map (s_rv ad))
  rw [List.map_set]

theorem g_putF {T : s_T} {Φ : s_P} {pc : Nat} {lv : s_V} {st : List Value} {h : s_H} {n kc ks : Nat} {a ci : Nat} {fs : List Value} {idx q0 : Nat} {v : Value} {t : FieldType} (hd : decode T.2.1 pc = .ok (.putfield idx, 3)) (hw : s_pw T.1.cls idx ci q0 t true) (hini : T.1.name = "<init>") (hcls : ∀ q, vwCl[ci]? = some q → T.1.cls = (q.2.1 q0).1) (ho : h a = .inr (ci, fs)) (ha : a < n) (hl : q0 < fs.length) (hn : narrow t v = v) (hf : fits t v = true)
    (k : s_G T Φ (pc + 3) lv st (s_up h a (.inr (ci, fs.set q0 v))) n kc ks) : s_G T Φ pc lv (v :: .ref a :: st) h n kc ks := by
  intro p l e R s m args below meth c X ad0 n0 A mc ms Qm C ad H locs cells slots ls S
  obtain ⟨q, hc, hk, hin, hlink, ⟨ty, hty, hnm⟩, hpd, hfin⟩ := hw
  have hat := s_ws_at (dA := X.2) (ad := ad) (h := h) ha
  rw [ho] at hat
  refine va_putF (T := q.2.1) C.1 C.2.1 C.2.2.2.2.2.1 hin ty hty hnm C.2.2.2.2.1 C.2.2.2.2.2.2.2.2.2.2.1 S.2.2.2.1 S.2.2.2.2.1 S.2.2.2.2.2.1 a (fs := fs.map (s_rv ad)) (ci := ci) hat hc q0 hk (C.2.2.2.2.2.1 _ hlink) (fun _ h9 => h9) hfin ((C.2.2.2.2.2.2.2.2.2.2.2.2.1).trans hini) (hcls q hc).symm hpd (s_narrow hn) (s_fits hf) (by rw [List.length_map]; exact hl) hd (fun H1 locs1 hP hD hS => k p l e R s m args below meth c X ad0 n0 A mc ms Qm C ad H1 locs1 cells slots ls (S.heap ha ?_ hP hD hS))
  show (Sum.inr (ci, (fs.map (s_rv ad)).set q0 (s_rv ad v)) : va_E) = Sum.inr (ci, (fs.set q0 v).map (s_rv ad))
  rw [List.map_set]

theorem g_iald {T : s_T} {Φ : s_P} {pc : Nat} {lv : s_V} {st : List Value} {h : s_H} {n kc ks : Nat} {a len j : Nat} {x : Int32} {f : Nat → Int32} (hd : decode T.2.1 pc = .ok (.iaload, 1)) (ho : h a = .inl (0, len, .inl f)) (ha : a < n) (hi : x = nI j) (hj : j < len) (hl : len < 2147483648)
    (k : s_G T Φ (pc + 1) lv (.int (f j) :: st) h n kc ks) : s_G T Φ pc lv (.int x :: .ref a :: st) h n kc ks := by
  intro p l e R s m args below meth c X ad0 n0 A mc ms Qm C ad H locs cells slots ls S
  subst hi
  have hat := s_ws_at (dA := X.2) (ad := ad) (h := h) ha
  rw [ho] at hat
  refine va_iald C.1 C.2.1 C.2.2.2.2.2.2.2.2.2.2.1 S.2.2.2.1 a 0 (cA := X.2 0) (n := len) (f := f) hat rfl (vp_in_nI hj hl) hd ?_
  rw [nI_clamp (Nat.lt_trans hj hl)]
  exact k p l e R s m args below meth c X ad0 n0 A mc ms Qm C ad H locs cells slots ls S

theorem g_iast {T : s_T} {Φ : s_P} {pc : Nat} {lv : s_V} {st : List Value} {h : s_H} {n kc ks : Nat} {a len j : Nat} {i : Int32} {x : Int32} {f : Nat → Int32} (hd : decode T.2.1 pc = .ok (.iastore, 1)) (ho : h a = .inl (0, len, .inl f)) (ha : a < n) (hi : i = nI j) (hj : j < len) (hl : len < 2147483648)
    (k : s_G T Φ (pc + 1) lv st (s_up h a (.inl (0, len, .inl (upd f j (x))))) n kc ks) : s_G T Φ pc lv (.int x :: .int i :: .ref a :: st) h n kc ks := by
  intro p l e R s m args below meth c X ad0 n0 A mc ms Qm C ad H locs cells slots ls S
  subst hi
  have hat := s_ws_at (dA := X.2) (ad := ad) (h := h) ha
  rw [ho] at hat
  refine va_iast C.1 C.2.1 C.2.2.2.2.2.2.2.2.2.2.1 S.2.2.2.1 S.2.2.2.2.1 S.2.2.2.2.2.1 a 0 (cA := X.2 0) (n := len) (f := f) hat rfl (vp_in_nI hj hl) hd ?_
  rw [nI_clamp (Nat.lt_trans hj hl)]
  exact (fun H1 locs1 hP hD hS => k p l e R s m args below meth c X ad0 n0 A mc ms Qm C ad H1 locs1 cells slots ls (S.heap ha rfl hP hD hS))

theorem g_bald {T : s_T} {Φ : s_P} {pc : Nat} {lv : s_V} {st : List Value} {h : s_H} {n kc ks : Nat} {a len j : Nat} {x : Int32} {f : Nat → Int32} (hd : decode T.2.1 pc = .ok (.baload, 1)) (ho : h a = .inl (2, len, .inl f)) (ha : a < n) (hi : x = nI j) (hj : j < len) (hl : len < 2147483648)
    (k : s_G T Φ (pc + 1) lv (.int (f j) :: st) h n kc ks) : s_G T Φ pc lv (.int x :: .ref a :: st) h n kc ks := by
  intro p l e R s m args below meth c X ad0 n0 A mc ms Qm C ad H locs cells slots ls S
  subst hi
  have hat := s_ws_at (dA := X.2) (ad := ad) (h := h) ha
  rw [ho] at hat
  refine va_bald C.1 C.2.1 C.2.2.2.2.2.2.2.2.2.2.1 S.2.2.2.1 a 2 (cA := X.2 2) (n := len) (f := f) hat rfl (vp_in_nI hj hl) hd ?_
  rw [nI_clamp (Nat.lt_trans hj hl)]
  exact k p l e R s m args below meth c X ad0 n0 A mc ms Qm C ad H locs cells slots ls S

theorem g_bast {T : s_T} {Φ : s_P} {pc : Nat} {lv : s_V} {st : List Value} {h : s_H} {n kc ks : Nat} {a len j : Nat} {i : Int32} {x : Int32} {f : Nat → Int32} (hd : decode T.2.1 pc = .ok (.bastore, 1)) (ho : h a = .inl (2, len, .inl f)) (ha : a < n) (hi : i = nI j) (hj : j < len) (hl : len < 2147483648)
    (k : s_G T Φ (pc + 1) lv st (s_up h a (.inl (2, len, .inl (upd f j (x.toInt8.toInt32))))) n kc ks) : s_G T Φ pc lv (.int x :: .int i :: .ref a :: st) h n kc ks := by
  intro p l e R s m args below meth c X ad0 n0 A mc ms Qm C ad H locs cells slots ls S
  subst hi
  have hat := s_ws_at (dA := X.2) (ad := ad) (h := h) ha
  rw [ho] at hat
  refine va_bast C.1 C.2.1 C.2.2.2.2.2.2.2.2.2.2.1 S.2.2.2.1 S.2.2.2.2.1 S.2.2.2.2.2.1 a 2 (cA := X.2 2) (n := len) (f := f) hat rfl (vp_in_nI hj hl) hd ?_
  rw [vp_nar_byte, nI_clamp (Nat.lt_trans hj hl)]
  exact (fun H1 locs1 hP hD hS => k p l e R s m args below meth c X ad0 n0 A mc ms Qm C ad H1 locs1 cells slots ls (S.heap ha rfl hP hD hS))

theorem g_lald {T : s_T} {Φ : s_P} {pc : Nat} {lv : s_V} {st : List Value} {h : s_H} {n kc ks : Nat} {a len j : Nat} {x : Int32} {f : Nat → Int64} (hd : decode T.2.1 pc = .ok (.laload, 1)) (ho : h a = .inl (1, len, .inr (.inl f))) (ha : a < n) (hi : x = nI j) (hj : j < len) (hl : len < 2147483648)
    (k : s_G T Φ (pc + 1) lv (.long (f j) :: st) h n kc ks) : s_G T Φ pc lv (.int x :: .ref a :: st) h n kc ks := by
  intro p l e R s m args below meth c X ad0 n0 A mc ms Qm C ad H locs cells slots ls S
  subst hi
  have hat := s_ws_at (dA := X.2) (ad := ad) (h := h) ha
  rw [ho] at hat
  refine va_lald C.1 C.2.1 C.2.2.2.2.2.2.2.2.2.2.1 S.2.2.2.1 a 1 (cA := X.2 1) (n := len) (f := f) hat rfl (vp_in_nI hj hl) hd ?_
  rw [nI_clamp (Nat.lt_trans hj hl)]
  exact k p l e R s m args below meth c X ad0 n0 A mc ms Qm C ad H locs cells slots ls S

theorem g_last {T : s_T} {Φ : s_P} {pc : Nat} {lv : s_V} {st : List Value} {h : s_H} {n kc ks : Nat} {a len j : Nat} {i : Int32} {x : Int64} {f : Nat → Int64} (hd : decode T.2.1 pc = .ok (.lastore, 1)) (ho : h a = .inl (1, len, .inr (.inl f))) (ha : a < n) (hi : i = nI j) (hj : j < len) (hl : len < 2147483648)
    (k : s_G T Φ (pc + 1) lv st (s_up h a (.inl (1, len, .inr (.inl (vp_updL f j (x)))))) n kc ks) : s_G T Φ pc lv (.long x :: .int i :: .ref a :: st) h n kc ks := by
  intro p l e R s m args below meth c X ad0 n0 A mc ms Qm C ad H locs cells slots ls S
  subst hi
  have hat := s_ws_at (dA := X.2) (ad := ad) (h := h) ha
  rw [ho] at hat
  refine va_last C.1 C.2.1 C.2.2.2.2.2.2.2.2.2.2.1 S.2.2.2.1 S.2.2.2.2.1 S.2.2.2.2.2.1 a 1 (cA := X.2 1) (n := len) (f := f) hat rfl (vp_in_nI hj hl) hd ?_
  rw [nI_clamp (Nat.lt_trans hj hl)]
  exact (fun H1 locs1 hP hD hS => k p l e R s m args below meth c X ad0 n0 A mc ms Qm C ad H1 locs1 cells slots ls (S.heap ha rfl hP hD hS))

theorem g_ialen {T : s_T} {Φ : s_P} {pc : Nat} {lv : s_V} {st : List Value} {h : s_H} {n kc ks : Nat} {a len : Nat} {f : Nat → Int32} (hd : decode T.2.1 pc = .ok (.arraylength, 1)) (ho : h a = .inl (0, (len, .inl f))) (ha : a < n)
    (k : s_G T Φ (pc + 1) lv (.int (nI len) :: st) h n kc ks) : s_G T Φ pc lv (.ref a :: st) h n kc ks := by
  intro p l e R s m args below meth c X ad0 n0 A mc ms Qm C ad H locs cells slots ls S
  have hat := s_ws_at (dA := X.2) (ad := ad) (h := h) ha
  rw [ho] at hat
  exact va_alen C.1 C.2.1 C.2.2.2.2.2.2.2.2.2.2.1 S.2.2.2.1 a 0 (cA := X.2 0) (x := s_ra ad (len, .inl f)) hat (ty := .int) rfl (v := nI len) rfl hd (k p l e R s m args below meth c X ad0 n0 A mc ms Qm C ad H locs cells slots ls S)

theorem g_balen {T : s_T} {Φ : s_P} {pc : Nat} {lv : s_V} {st : List Value} {h : s_H} {n kc ks : Nat} {a len : Nat} {f : Nat → Int32} (hd : decode T.2.1 pc = .ok (.arraylength, 1)) (ho : h a = .inl (2, (len, .inl f))) (ha : a < n)
    (k : s_G T Φ (pc + 1) lv (.int (nI len) :: st) h n kc ks) : s_G T Φ pc lv (.ref a :: st) h n kc ks := by
  intro p l e R s m args below meth c X ad0 n0 A mc ms Qm C ad H locs cells slots ls S
  have hat := s_ws_at (dA := X.2) (ad := ad) (h := h) ha
  rw [ho] at hat
  exact va_alen C.1 C.2.1 C.2.2.2.2.2.2.2.2.2.2.1 S.2.2.2.1 a 2 (cA := X.2 2) (x := s_ra ad (len, .inl f)) hat (ty := .byte) rfl (v := nI len) rfl hd (k p l e R s m args below meth c X ad0 n0 A mc ms Qm C ad H locs cells slots ls S)

theorem g_qalen {T : s_T} {Φ : s_P} {pc : Nat} {lv : s_V} {st : List Value} {h : s_H} {n kc ks : Nat} {a len : Nat} {f : Nat → Option Nat} (hd : decode T.2.1 pc = .ok (.arraylength, 1)) (ho : h a = .inl (3, (len, .inr (.inr (.inr (.inr f)))))) (ha : a < n)
    (k : s_G T Φ (pc + 1) lv (.int (nI len) :: st) h n kc ks) : s_G T Φ pc lv (.ref a :: st) h n kc ks := by
  intro p l e R s m args below meth c X ad0 n0 A mc ms Qm C ad H locs cells slots ls S
  have hat := s_ws_at (dA := X.2) (ad := ad) (h := h) ha
  rw [ho] at hat
  exact va_alen C.1 C.2.1 C.2.2.2.2.2.2.2.2.2.2.1 S.2.2.2.1 a 3 (cA := X.2 3) (x := s_ra ad (len, .inr (.inr (.inr (.inr f))))) hat (ty := (.object "BackupPlanner$Disk")) rfl (v := nI len) rfl hd (k p l e R s m args below meth c X ad0 n0 A mc ms Qm C ad H locs cells slots ls S)

theorem g_aaldD {T : s_T} {Φ : s_P} {pc : Nat} {lv : s_V} {st : List Value} {h : s_H} {n kc ks : Nat} {a len j b : Nat} {x : Int32} {f : Nat → Option Nat} (hd : decode T.2.1 pc = .ok (.aaload, 1)) (ho : h a = .inl (3, len, .inr (.inr (.inr (.inr f))))) (ha : a < n) (hi : x = nI j) (hj : j < len) (hl : len < 2147483648) (hv : f j = some b)
    (k : s_G T Φ (pc + 1) lv (.ref b :: st) h n kc ks) : s_G T Φ pc lv (.int x :: .ref a :: st) h n kc ks := by
  intro p l e R s m args below meth c X ad0 n0 A mc ms Qm C ad H locs cells slots ls S
  subst hi
  have hat := s_ws_at (dA := X.2) (ad := ad) (h := h) ha
  rw [ho] at hat
  refine va_aldq C.1 C.2.1 C.2.2.2.2.2.2.2.2.2.2.1 S.2.2.2.1 a 3 (cA := X.2 3) (C := "BackupPlanner$Disk") (n := len) (f := fun j => (f j).map ad) hat rfl (vp_in_nI hj hl) hd ?_
  rw [nI_clamp (Nat.lt_trans hj hl), hv]
  exact k p l e R s m args below meth c X ad0 n0 A mc ms Qm C ad H locs cells slots ls S

theorem g_aaldL {T : s_T} {Φ : s_P} {pc : Nat} {lv : s_V} {st : List Value} {h : s_H} {n kc ks : Nat} {a len j b : Nat} {x : Int32} {f : Nat → Option Nat} (hd : decode T.2.1 pc = .ok (.aaload, 1)) (ho : h a = .inl (4, len, .inr (.inr (.inr (.inr f))))) (ha : a < n) (hi : x = nI j) (hj : j < len) (hl : len < 2147483648) (hv : f j = some b)
    (k : s_G T Φ (pc + 1) lv (.ref b :: st) h n kc ks) : s_G T Φ pc lv (.int x :: .ref a :: st) h n kc ks := by
  intro p l e R s m args below meth c X ad0 n0 A mc ms Qm C ad H locs cells slots ls S
  subst hi
  have hat := s_ws_at (dA := X.2) (ad := ad) (h := h) ha
  rw [ho] at hat
  have hin : vp_in (nI j) len := vp_in_nI hj hl
  have hjc : (nI j).toNatClampNeg = j := nI_clamp (Nat.lt_trans hj hl)
  have hK := C.2.2.2.2.2.2.2.2.2.2.1
  exact W.aald (v := .ref (ad b)) (ty := .array .long) (cell := arrV (X.2 4) len (fun j => va_rf ((f j).map ad))) C.1 C.2.1 (S.2.2.2.1 a _ hat) ((hK.2 4 (X.2 4, .array .long) rfl).1 len (fun j => va_rf ((f j).map ad))) rfl (fun q => by cases q) (by show ¬ (nI j < 0 ∨ (arrV _ _ _).slots.size ≤ _); rw [arrV_size]; exact hin) (by show (arrV _ _ _).slots[_]? = _; rw [hjc, arrV_read _ _ hj, hv]; rfl) rfl rfl hd (k p l e R s m args below meth c X ad0 n0 A mc ms Qm C ad H locs cells slots ls S)

theorem g_aastD {T : s_T} {Φ : s_P} {pc : Nat} {lv : s_V} {st : List Value} {h : s_H} {n kc ks : Nat} {a len j b : Nat} {x : Int32} {f : Nat → Option Nat} {fs : List Value} (hd : decode T.2.1 pc = .ok (.aastore, 1)) (ho : h a = .inl (3, len, .inr (.inr (.inr (.inr f))))) (ha : a < n) (hb : b < n) (hob : h b = .inr (0, fs)) (hi : x = nI j) (hj : j < len) (hl : len < 2147483648)
    (k : s_G T Φ (pc + 1) lv st (s_up h a (.inl (3, len, .inr (.inr (.inr (.inr (va_up f j (some b)))))))) n kc ks) : s_G T Φ pc lv (.ref b :: .int x :: .ref a :: st) h n kc ks := by
  intro p l e R s m args below meth c X ad0 n0 A mc ms Qm C ad H locs cells slots ls S
  subst hi
  have hat := s_ws_at (dA := X.2) (ad := ad) (h := h) ha
  have hbt := s_ws_at (dA := X.2) (ad := ad) (h := h) hb
  rw [ho] at hat
  rw [hob] at hbt
  refine va_astq C.1 C.2.1 C.2.2.2.2.2.2.2.2.2.2.1 S.2.2.2.1 S.2.2.2.2.1 S.2.2.2.2.2.1 a 3 b 0 (cA := X.2 3) (r := (RX2, TX2, 9)) (n := len) (f := fun j => (f j).map ad) hat rfl (vs := fs.map (s_rv ad)) hbt rfl (vp_in_nI hj hl) hd ?_
  rw [nI_clamp (Nat.lt_trans hj hl)]
  refine (fun H1 locs1 hP hD hS => k p l e R s m args below meth c X ad0 n0 A mc ms Qm C ad H1 locs1 cells slots ls (S.heap ha ?_ hP hD hS))
  show (Sum.inl (X.2 3, len, Sum.inr (Sum.inr (Sum.inr (Sum.inr (va_up (fun j => (f j).map ad) j (some (ad b))))))) : va_E) = Sum.inl (X.2 3, len, Sum.inr (Sum.inr (Sum.inr (Sum.inr (fun i => (va_up f j (some b) i).map ad)))))
  congr 7
  funext i
  by_cases hij : i = j <;> simp [va_up, hij]

theorem g_copyi {T : s_T} {Φ : s_P} {pc : Nat} {lv : s_V} {st : List Value} {h : s_H} {n kc ks : Nat} {a b la lb sp dp m9 : Nat} {x y z : Int32} {f g : Nat → Int32} {idx : Nat} (hd : decode T.2.1 pc = .ok (.invokestatic idx, 3)) (hw : Cond.methodLink T.1.cls idx arraycopyName ∈ s_WL ∧ Cond.native arraycopyName ∈ s_WL ∧ Cond.static arraycopyName ∈ s_WL ∧ Cond.initialized "java/lang/System" ∈ s_WL)
    (hoa : h a = .inl (0, la, .inl f)) (hob : h b = .inl (0, lb, .inl g)) (ha : a < n) (hb : b < n) (h1 : x = nI sp) (h2 : y = nI dp) (h3 : z = nI m9) (hs : sp + m9 ≤ la) (ht : dp + m9 ≤ lb) (hl : la < 2147483648 ∧ lb < 2147483648) (hc : (st.map fun v => v.category).sum ≤ 8)
    (k : s_G T Φ (pc + 3) lv st (s_up h b (.inl (0, lb, .inl (va_cpy f g sp dp m9)))) n kc ks) : s_G T Φ pc lv (.int z :: .int y :: .ref b :: .int x :: .ref a :: st) h n kc ks := by
  intro p l e R s m args below meth c X ad0 n0 A mc ms Qm C ad H locs cells slots ls S
  subst h1; subst h2; subst h3
  have hat := s_ws_at (dA := X.2) (ad := ad) (h := h) ha
  have hbt := s_ws_at (dA := X.2) (ad := ad) (h := h) hb
  rw [hoa] at hat
  rw [hob] at hbt
  have e1 : (nI sp).toNatClampNeg = sp := nI_clamp (by omega)
  have e2 : (nI dp).toNatClampNeg = dp := nI_clamp (by omega)
  have e3 : (nI m9).toNatClampNeg = m9 := nI_clamp (by omega)
  have hR := C.2.2.2.2.2.2.2.2.2.2.2.2.2.1
  have hcat : ((st.map (s_rv ad)).map fun v => v.category).sum ≤ 8 := by
    rw [List.map_map, show ((fun v : Value => v.category) ∘ s_rv ad) = fun v => v.category from funext (s_cat ad)]
    exact hc
  refine va_copyi C.1 C.2.1 (C.2.2.1.trans S.2.2.2.2.2.2.2.2.1.symm) C.2.2.2.2.1 (C.2.2.2.2.2.1 _ hw.1) (C.2.2.2.2.2.1 _ hw.2.1) (C.2.2.2.2.2.1 _ hw.2.2.1) (C.2.2.2.2.2.1 _ hw.2.2.2) C.2.2.2.2.2.2.2.2.2.2.1 S.2.2.2.1 S.2.2.2.2.1 S.2.2.2.2.2.1 a b 0 0 (c0 := X.2 0) (c1 := X.2 0) (n0 := la) (n1 := lb) (f := f) (g := g) (ty := .int) hat hbt rfl rfl rfl (nI_pos (by omega)) (nI_pos (by omega)) (nI_pos (by omega)) (by rw [e1, e3]; exact hs) (by rw [e2, e3]; exact ht) (fun _ _ => rfl) (by omega) (Nat.le_trans (Nat.add_le_add_right hcat _) (Nat.le_trans (Nat.le_trans (show 8 + (nativeFrameWords "java/lang/System" "arraycopy" 5 + 11) ≤ 200 by decide +kernel) (Nat.le_add_left _ _)) hR.2.1)) hd ?_
  rw [e1, e2, e3]
  exact (fun H1 locs1 hP hD hS => k p l e R s m args below meth c X ad0 n0 A mc ms Qm C ad H1 locs1 cells slots ls (S.heap hb rfl hP hD hS))
