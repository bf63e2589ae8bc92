/-! rows: switches, the commands' constants (written by wip/tools/const2.py) -/
theorem s_SQ.en {ad : Nat → Nat} {A : Nat → Prop} {U : State} {H : Heap} (h : s_SQ ad A U H) : s_SE ad A U H := h.2.2.2.2.2
abbrev s_cN : String := "BackupPlanner$Script"
theorem wX6_100 : Cond.fieldLink s_cN 100 s_eN "word" "Ljava/lang/String;" ∈ s_WL := s_WL_of 1140 (by decide +kernel) rfl
theorem wX6_80 : Cond.fieldLink s_cN 80 s_eN "first" "I" ∈ s_WL := s_WL_of 1141 (by decide +kernel) rfl
theorem wX6_89 : Cond.fieldLink s_cN 89 s_eN "second" "I" ∈ s_WL := s_WL_of 1142 (by decide +kernel) rfl
theorem g_tabIn {T : s_T} {Φ : s_P} {pc : Nat} {lv : s_V} {st : List Value} {h : s_H} {n kc ks : Nat} {dflt lo hi : Int} {offs : Array Int} {len tgt : Nat} {x : Int32} {off : Int} (hd : decode T.2.1 pc = .ok (.tableswitch dflt lo hi offs, len)) (h1 : ¬ x.toInt < lo) (h2 : ¬ hi < x.toInt) (ho : offs[(x.toInt - lo).toNat]? = some off) (ht : (pc : Int) + off = (tgt : Int)) (k : s_G T Φ tgt lv st h n kc ks) : s_G T Φ pc lv (.int x :: st) h n kc ks := by
  intro p l e R s m args below meth c X ad0 n0 A mc ms Qm C ad H locs cells slots ls S
  exact lv_tableIn C.1 C.2.1 hd h1 h2 ho ht (k p l e R s m args below meth c X ad0 n0 A mc ms Qm C ad H locs cells slots ls S)
theorem g_tabOut {T : s_T} {Φ : s_P} {pc : Nat} {lv : s_V} {st : List Value} {h : s_H} {n kc ks : Nat} {dflt lo hi : Int} {offs : Array Int} {len tgt : Nat} {x : Int32} (hd : decode T.2.1 pc = .ok (.tableswitch dflt lo hi offs, len)) (h1 : x.toInt < lo ∨ hi < x.toInt) (ht : (pc : Int) + dflt = (tgt : Int)) (k : s_G T Φ tgt lv st h n kc ks) : s_G T Φ pc lv (.int x :: st) h n kc ks := by
  intro p l e R s m args below meth c X ad0 n0 A mc ms Qm C ad H locs cells slots ls S
  exact lv_tableOut C.1 C.2.1 hd h1 ht (k p l e R s m args below meth c X ad0 n0 A mc ms Qm C ad H locs cells slots ls S)
theorem g_kcmds {T : s_T} {Φ : s_P} {pc : Nat} {lv : s_V} {st : List Value} {h : s_H} {n kc ks : Nat} (hcl : T.1.cls = s_cN) (hd : decode T.2.1 pc = .ok (.getstatic 96, 3))
    (k : s_G T Φ (pc + 3) lv (.ref (s_big + 200) :: st) h n kc ks) : s_G T Φ pc lv (st) h n kc ks := by
  intro p l e R s m args below meth c X ad0 n0 A mc ms Qm C ad H locs cells slots ls S
  have hSP := (C.2.2.2.2.2.2.2.2.2.2.2.1).ag (S.2.2.1.big S.2.1)
  exact va_getsN C.1 C.2.1 hSP.2.en.1 S.2.2.2.2.2.1 (by have z := C.2.2.2.2.1; rw [hcl] at z; exact z) (va_tabs rfl rfl (hSP.1.1 _ wX6_96)) (fun _ z => z) hd (k p l e R s m args below meth c X ad0 n0 A mc ms Qm C ad H locs cells slots ls S)
theorem g_kmap {T : s_T} {Φ : s_P} {pc : Nat} {lv : s_V} {st : List Value} {h : s_H} {n kc ks : Nat} (hcl : T.1.cls = s_cN) (hd : decode T.2.1 pc = .ok (.getstatic 104, 3))
    (k : s_G T Φ (pc + 3) lv (.ref (s_big + 201) :: st) h n kc ks) : s_G T Φ pc lv (st) h n kc ks := by
  intro p l e R s m args below meth c X ad0 n0 A mc ms Qm C ad H locs cells slots ls S
  have hSP := (C.2.2.2.2.2.2.2.2.2.2.2.1).ag (S.2.2.1.big S.2.1)
  exact va_gets C.1 C.2.1 hSP.2.en.2.2.1 S.2.2.2.2.2.1 (by have z := C.2.2.2.2.1; rw [hcl] at z; exact z) (C.2.2.2.2.2.1 _ wX6_104) (fun _ z => z) hd (k p l e R s m args below meth c X ad0 n0 A mc ms Qm C ad H locs cells slots ls S)
theorem g_kclen {T : s_T} {Φ : s_P} {pc : Nat} {lv : s_V} {st : List Value} {h : s_H} {n kc ks : Nat} (hd : decode T.2.1 pc = .ok (.arraylength, 1))
    (k : s_G T Φ (pc + 1) lv (.int 10 :: st) h n kc ks) : s_G T Φ pc lv (.ref (s_big + 200) :: st) h n kc ks := by
  intro p l e R s m args below meth c X ad0 n0 A mc ms Qm C ad H locs cells slots ls S
  have hSP := (C.2.2.2.2.2.2.2.2.2.2.2.1).ag (S.2.2.1.big S.2.1)
  exact va_tlen C.1 C.2.1 hSP.2.en.2.1 S.2.2.2.2.2.1 rfl hd (k p l e R s m args below meth c X ad0 n0 A mc ms Qm C ad H locs cells slots ls S)
theorem g_kcat {T : s_T} {Φ : s_P} {pc : Nat} {lv : s_V} {st : List Value} {h : s_H} {n kc ks : Nat} {j : Nat} {x : Int32} (hj : j < 10) (hx : x = nI j) (hd : decode T.2.1 pc = .ok (.aaload, 1))
    (k : s_G T Φ (pc + 1) lv (.ref (s_big + 100 + j) :: st) h n kc ks) : s_G T Φ pc lv (.int x :: .ref (s_big + 200) :: st) h n kc ks := by
  intro p l e R s m args below meth c X ad0 n0 A mc ms Qm C ad H locs cells slots ls S
  have hSP := (C.2.2.2.2.2.2.2.2.2.2.2.1).ag (S.2.2.1.big S.2.1)
  subst hx
  obtain ⟨cell, h1, h2, h3, h4, h5, h6, h7⟩ := hSP.2.en.2.1
  exact W.aald (v := .ref (ad (s_big + 100 + j))) C.1 C.2.1 (by rw [S.2.2.2.2.2.1.2.1 _ (Array.getElem?_eq_some_iff.mp h1).1 h7]; exact h1) h2 rfl h3 (fun q => q.elim (fun q => nI_pos (by omega) q) (fun q => by rw [nI_clamp (by omega)] at q; omega)) (by rw [nI_clamp (by omega)]; exact h6 j hj) rfl rfl hd (k p l e R s m args below meth c X ad0 n0 A mc ms Qm C ad H locs cells slots ls S)
theorem g_kmat {T : s_T} {Φ : s_P} {pc : Nat} {lv : s_V} {st : List Value} {h : s_H} {n kc ks : Nat} {j : Nat} {x : Int32} (hj : j < 10) (hx : x = nI j) (hd : decode T.2.1 pc = .ok (.iaload, 1))
    (k : s_G T Φ (pc + 1) lv (.int (nI (j + 1)) :: st) h n kc ks) : s_G T Φ pc lv (.int x :: .ref (s_big + 201) :: st) h n kc ks := by
  intro p l e R s m args below meth c X ad0 n0 A mc ms Qm C ad H locs cells slots ls S
  have hSP := (C.2.2.2.2.2.2.2.2.2.2.2.1).ag (S.2.2.1.big S.2.1)
  subst hx
  exact va_ti C.1 C.2.1 hSP.2.en.2.2.2.1 S.2.2.2.2.2.1 (fun z => z.elim (fun z => nI_pos (by omega) z) (fun z => by rw [nI_clamp (by omega)] at z; omega)) (by rw [nI_clamp (by omega)]; rfl) hd (k p l e R s m args below meth c X ad0 n0 A mc ms Qm C ad H locs cells slots ls S)
theorem g_kword {T : s_T} {Φ : s_P} {pc : Nat} {lv : s_V} {st : List Value} {h : s_H} {n kc ks : Nat} {j : Nat} (hj : j < 10) (hcl : T.1.cls = s_cN) (hd : decode T.2.1 pc = .ok (.getfield 100, 3))
    (k : s_G T Φ (pc + 3) lv (.ref (s_big + 2 + j) :: st) h n kc ks) : s_G T Φ pc lv (.ref (s_big + 100 + j) :: st) h n kc ks := by
  intro p l e R s m args below meth c X ad0 n0 A mc ms Qm C ad H locs cells slots ls S
  have hSP := (C.2.2.2.2.2.2.2.2.2.2.2.1).ag (S.2.2.1.big S.2.1)
  exact vk_getf C.1 C.2.1 (hSP.2.en.2.2.2.2 j hj).2.1 S.2.2.2.2.2.1 (by have z := C.2.2.2.2.1; rw [hcl] at z; exact z) (C.2.2.2.2.2.1 _ wX6_100) (fun _ z => z) hd (k p l e R s m args below meth c X ad0 n0 A mc ms Qm C ad H locs cells slots ls S)
theorem g_kfst {T : s_T} {Φ : s_P} {pc : Nat} {lv : s_V} {st : List Value} {h : s_H} {n kc ks : Nat} {j : Nat} (hj : j < 10) (hcl : T.1.cls = s_cN) (hd : decode T.2.1 pc = .ok (.getfield 80, 3))
    (k : s_G T Φ (pc + 3) lv (.int (s_c1 j) :: st) h n kc ks) : s_G T Φ pc lv (.ref (s_big + 100 + j) :: st) h n kc ks := by
  intro p l e R s m args below meth c X ad0 n0 A mc ms Qm C ad H locs cells slots ls S
  have hSP := (C.2.2.2.2.2.2.2.2.2.2.2.1).ag (S.2.2.1.big S.2.1)
  exact vk_getf C.1 C.2.1 (hSP.2.en.2.2.2.2 j hj).2.2.1 S.2.2.2.2.2.1 (by have z := C.2.2.2.2.1; rw [hcl] at z; exact z) (C.2.2.2.2.2.1 _ wX6_80) (fun _ z => z) hd (k p l e R s m args below meth c X ad0 n0 A mc ms Qm C ad H locs cells slots ls S)
theorem g_ksnd {T : s_T} {Φ : s_P} {pc : Nat} {lv : s_V} {st : List Value} {h : s_H} {n kc ks : Nat} {j : Nat} (hj : j < 10) (hcl : T.1.cls = s_cN) (hd : decode T.2.1 pc = .ok (.getfield 89, 3))
    (k : s_G T Φ (pc + 3) lv (.int (s_c2 j) :: st) h n kc ks) : s_G T Φ pc lv (.ref (s_big + 100 + j) :: st) h n kc ks := by
  intro p l e R s m args below meth c X ad0 n0 A mc ms Qm C ad H locs cells slots ls S
  have hSP := (C.2.2.2.2.2.2.2.2.2.2.2.1).ag (S.2.2.1.big S.2.1)
  exact vk_getf C.1 C.2.1 (hSP.2.en.2.2.2.2 j hj).2.2.2.1 S.2.2.2.2.2.1 (by have z := C.2.2.2.2.1; rw [hcl] at z; exact z) (C.2.2.2.2.2.1 _ wX6_89) (fun _ z => z) hd (k p l e R s m args below meth c X ad0 n0 A mc ms Qm C ad H locs cells slots ls S)
