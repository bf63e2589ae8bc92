/-! rows of constants: texts, enum constants, static fields (written by wip/tools/const.py) -/
/-- the texts' facts, in a walk -/
theorem s_SQ.str {ad : Nat → Nat} {A : Nat → Prop} {U : State} {H : Heap} (h : s_SQ ad A U H) : vk_S 14 s_len s_byt (fun i => ad (s_big + i)) (fun i => ad (s_big + 300 + i)) A U H := h.2.2.2.2.1.1
abbrev s_sN : String := "java/lang/String"
theorem wJ0_9 : Cond.fieldLink s_sN 9 s_sN "value" "[B" ∈ s_WL := s_WL_of 566 (by decide +kernel) rfl
theorem wJ0_15 : Cond.fieldLink s_sN 15 s_sN "coder" "B" ∈ s_WL := s_WL_of 567 (by decide +kernel) rfl
theorem wJ0_38 : Cond.fieldLink s_sN 38 s_sN "COMPACT_STRINGS" "Z" ∈ s_WL := s_WL_of 378 (by decide +kernel) rfl
theorem wJ0_1053 : Cond.fieldLink s_sN 1053 "jdk/internal/util/Preconditions" "SIOOBE_FORMATTER" "Ljava/util/function/BiFunction;" ∈ s_WL := s_WL_of 356 (by decide +kernel) rfl
theorem wX6_104 : Cond.fieldLink "BackupPlanner$Script" 104 "BackupPlanner$1" "$SwitchMap$BackupPlanner$Command" "[I" ∈ s_WL := s_WL_of 673 (by decide +kernel) rfl
theorem wX6_96 : Cond.fieldLinkNest "BackupPlanner$Script" 96 "BackupPlanner" "COMMANDS" "[LBackupPlanner$Command;" "BackupPlanner" ∈ s_NW := by decide +kernel
theorem g_kval {T : s_T} {Φ : s_P} {pc : Nat} {lv : s_V} {st : List Value} {h : s_H} {n kc ks : Nat} {i : Nat} (hi : i < 14) (hcl : T.1.cls = s_sN) (hd : decode T.2.1 pc = .ok (.getfield 9, 3))
    (k : s_G T Φ (pc + 3) lv (.ref (s_big + 300 + i) :: st) h n kc ks) : s_G T Φ pc lv (.ref (s_big + i) :: st) h n kc ks := by
  intro p l e R s m args below meth c X ad0 n0 A mc ms Qm C ad H locs cells slots ls S
  have hSP := (C.2.2.2.2.2.2.2.2.2.2.2.1).ag (S.2.2.1.big S.2.1)
  exact vk_getf C.1 C.2.1 (hSP.2.str.1 i hi).2.2.1 S.2.2.2.2.2.1 (by rw [← hcl]; exact C.2.2.2.2.1) (C.2.2.2.2.2.1 _ wJ0_9) (fun _ z => z) hd (k p l e R s m args below meth c X ad0 n0 A mc ms Qm C ad H locs cells slots ls S)
theorem g_kcod {T : s_T} {Φ : s_P} {pc : Nat} {lv : s_V} {st : List Value} {h : s_H} {n kc ks : Nat} {i : Nat} (hi : i < 14) (hcl : T.1.cls = s_sN) (hd : decode T.2.1 pc = .ok (.getfield 15, 3))
    (k : s_G T Φ (pc + 3) lv (.int 0 :: st) h n kc ks) : s_G T Φ pc lv (.ref (s_big + i) :: st) h n kc ks := by
  intro p l e R s m args below meth c X ad0 n0 A mc ms Qm C ad H locs cells slots ls S
  have hSP := (C.2.2.2.2.2.2.2.2.2.2.2.1).ag (S.2.2.1.big S.2.1)
  exact vk_getf C.1 C.2.1 (hSP.2.str.1 i hi).2.1 S.2.2.2.2.2.1 (by rw [← hcl]; exact C.2.2.2.2.1) (C.2.2.2.2.2.1 _ wJ0_15) (fun _ z => z) hd (k p l e R s m args below meth c X ad0 n0 A mc ms Qm C ad H locs cells slots ls S)
theorem g_kcs {T : s_T} {Φ : s_P} {pc : Nat} {lv : s_V} {st : List Value} {h : s_H} {n kc ks : Nat} (hcl : T.1.cls = s_sN) (hd : decode T.2.1 pc = .ok (.getstatic 38, 3))
    (k : s_G T Φ (pc + 3) lv (.int 1 :: st) h n kc ks) : s_G T Φ pc lv (st) h n kc ks := by
  intro p l e R s m args below meth c X ad0 n0 A mc ms Qm C ad H locs cells slots ls S
  have hSP := (C.2.2.2.2.2.2.2.2.2.2.2.1).ag (S.2.2.1.big S.2.1)
  exact va_gets C.1 C.2.1 hSP.2.2.2.1 S.2.2.2.2.2.1 (by rw [← hcl]; exact C.2.2.2.2.1) (C.2.2.2.2.2.1 _ wJ0_38) (fun _ z => z) hd (k p l e R s m args below meth c X ad0 n0 A mc ms Qm C ad H locs cells slots ls S)
theorem g_klen {T : s_T} {Φ : s_P} {pc : Nat} {lv : s_V} {st : List Value} {h : s_H} {n kc ks : Nat} {i : Nat} (hi : i < 14) (hd : decode T.2.1 pc = .ok (.arraylength, 1))
    (k : s_G T Φ (pc + 1) lv (.int (nI (s_len.getD i 0)) :: st) h n kc ks) : s_G T Φ pc lv (.ref (s_big + 300 + i) :: st) h n kc ks := by
  intro p l e R s m args below meth c X ad0 n0 A mc ms Qm C ad H locs cells slots ls S
  have hSP := (C.2.2.2.2.2.2.2.2.2.2.2.1).ag (S.2.2.1.big S.2.1)
  exact va_tlen C.1 C.2.1 (hSP.2.str.1 i hi).2.2.2 S.2.2.2.2.2.1 rfl hd (k p l e R s m args below meth c X ad0 n0 A mc ms Qm C ad H locs cells slots ls S)
theorem g_kbyt {T : s_T} {Φ : s_P} {pc : Nat} {lv : s_V} {st : List Value} {h : s_H} {n kc ks : Nat} {i j : Nat} {x : Int32} (hi : i < 14) (hj : j < s_len.getD i 0) (hj9 : j < 100) (hx : x = nI j) (hd : decode T.2.1 pc = .ok (.baload, 1))
    (k : s_G T Φ (pc + 1) lv (.int ((s_byt.getD i []).getD j 0) :: st) h n kc ks) : s_G T Φ pc lv (.int x :: .ref (s_big + 300 + i) :: st) h n kc ks := by
  intro p l e R s m args below meth c X ad0 n0 A mc ms Qm C ad H locs cells slots ls S
  have hSP := (C.2.2.2.2.2.2.2.2.2.2.2.1).ag (S.2.2.1.big S.2.1)
  subst hx
  exact va_tb C.1 C.2.1 (hSP.2.str.1 i hi).2.2.2 S.2.2.2.2.2.1 (fun z => z.elim (fun z => nI_pos (by omega) z) (fun z => by rw [nI_clamp (by omega)] at z; omega)) (by rw [nI_clamp (by omega)]; rfl) hd (k p l e R s m args below meth c X ad0 n0 A mc ms Qm C ad H locs cells slots ls S)
theorem g_ksio {T : s_T} {Φ : s_P} {pc : Nat} {lv : s_V} {st : List Value} {h : s_H} {n kc ks : Nat} (hcl : T.1.cls = s_sN) (hd : decode T.2.1 pc = .ok (.getstatic 1053, 3))
    (k : ∀ v : Value, v = .null ∨ v = .ref (s_big + 400) → s_G T Φ (pc + 3) lv (v :: st) h n kc ks) : s_G T Φ pc lv st h n kc ks := by
  intro p l e R s m args below meth c X ad0 n0 A mc ms Qm C ad H locs cells slots ls S
  have hSP := (C.2.2.2.2.2.2.2.2.2.2.2.1).ag (S.2.2.1.big S.2.1)
  obtain ⟨v, hv, hZ⟩ := hSP.2.2.2.2.1
  exact va_gets C.1 C.2.1 hZ S.2.2.2.2.2.1 (by rw [← hcl]; exact C.2.2.2.2.1) (C.2.2.2.2.2.1 _ wJ0_1053) (fun _ z => z) hd (k v hv p l e R s m args below meth c X ad0 n0 A mc ms Qm C ad H locs cells slots ls S)
/-- a text by its index -/
theorem g_kstr {T : s_T} {Φ : s_P} {pc : Nat} {lv : s_V} {st : List Value} {h : s_H} {n kc ks : Nat} {is i : Nat} {text : String} (hm : (T.1.cls, is, text, i) ∈ s_str) (hd : decode T.2.1 pc = .ok (.ldc is, 2))
    (k : s_G T Φ (pc + 2) lv (.ref (s_big + i) :: st) h n kc ks) : s_G T Φ pc lv st h n kc ks := by
  intro p l e R s m args below meth c X ad0 n0 A mc ms Qm C ad H locs cells slots ls S
  have hSP := (C.2.2.2.2.2.2.2.2.2.2.2.1).ag (S.2.2.1.big S.2.1)
  have hz := hSP.1.2.2.2 _ hm
  dsimp only at hz
  exact va_ldcS (q := ad (s_big + i)) C.1 C.2.1 C.2.2.2.2.1 hz hd (k p l e R s m args below meth c X ad0 n0 A mc ms Qm C ad H locs cells slots ls S)
/-- a call of a method of String on a text -/
theorem g_callT {T : s_T} {Φ : s_P} {pc : Nat} {lv : s_V} {st : List Value} {h : s_H} {n kc ks : Nat} {T' : s_T} {as rest : List Value} {i : Nat} {idx na : Nat} {r : Option Value} {h1 : s_H} (M : s_Mt T' 0 0 (.ref (s_big + i) :: as) h n (s_re r h1 n)) (hi : i < 14) (hd : decode T.2.1 pc = .ok (.invokevirtual idx, 3)) (cm : s_cm T' na) (hcl : T'.1.cls = s_sN) (hh : T'.2.2.2.2.1 = []) (hl : Cond.methodLink T.1.cls idx T'.1 ∈ s_WL) (hi9 : Cond.instanceMethod T'.1 ∈ s_WL) (hse : Cond.selects T'.1.cls T'.1 T'.1 ∈ s_WL) (hdep : T'.2.2.2.2.2 + 1 ≤ T.2.2.2.2.2) (hst : st = as.reverse ++ .ref (s_big + i) :: rest) (hna : as.length = na) (hc : (rest.map fun v => v.category).sum ≤ 8)
    (kk : s_G T Φ (pc + 3) lv (r.toList ++ rest) h1 n kc ks) : s_G T Φ pc lv st h n kc ks := by
  refine g_call (rest := rest) (Ψ := s_re r h1 n) (Nat.zero_le kc) (Nat.zero_le ks) s_re.same ?_ (fun v h' q => by
    obtain ⟨q1, q2, -⟩ := q
    cases q1
    rw [q2]
    exact kk) (fun E h' q => absurd q.1 (by intro z; cases z))
  intro p l e R s m args below meth c X ad0 n0 A mc ms Qm C ad H locs cells slots ls S
  have hSP := (C.2.2.2.2.2.2.2.2.2.2.2.1).ag (S.2.2.1.big S.2.1)
  have hM := M l C.2.2.2.2.2.2.2.2.1 X ad H.size
  have hR := s_room (mc' := 0) (ms' := 0) C.2.2.2.2.2.2.2.2.2.2.2.2.2.1 hdep cm.2.2.1
  have hrc := vk_recv hSP.2.str hi S.2.2.2.2.2.1
  rw [show "java/lang/String" = T'.1.cls from hcl.symm] at hrc
  have hpv : PreV s H T'.1.cls (ad (s_big + i)) (va_Pc ((.ref (s_big + i) :: as).map (s_rv ad)) (fun U => U.heap.size = H.size ∧ s_PC X ad n h U)) (as.map (s_rv ad)) := ⟨(s_pre C S (.ref (s_big + i) :: as)).1, hrc, (s_pre C S (.ref (s_big + i) :: as)).2⟩
  exact ⟨_, vx_runV ⟨C.1, C.2.1, C.2.2.1, C.2.2.2.2.1, C.2.2.2.2.2.1⟩ hM (cwV (bytes := T'.2.1) (maxL := T'.2.2.1) (ret := T'.2.2.2.1) (ws' := s_WL) na C.2.2.2.2.2.1 (s_good (s_inV cm hl hi9 hse)) (by rw [s_hd_of hh]) rfl rfl ⟨rfl, cm.2.1⟩ hR) hpv rfl (by rw [List.length_map]; exact hna) S.2.2.2.2.2.2.2.2.1 (by rw [hst]; simp [s_rv]) (lv_room (s_cats hc)) hd ⟨Nat.le_trans (Nat.le_of_eq rfl) (Nat.le_trans (Nat.le_trans (Nat.le_add_right _ kc) S.2.2.2.2.2.2.1) C.2.2.2.2.2.2.2.2.2.2.2.2.2.1.2.2.1), Nat.le_trans (Nat.le_of_eq rfl) (Nat.le_trans (Nat.le_trans (Nat.le_add_right _ ks) S.2.2.2.2.2.2.2.1) C.2.2.2.2.2.2.2.2.2.2.2.2.2.1.2.2.2)⟩⟩
