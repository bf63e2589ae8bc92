/-! THE SCRIPT: any command executed -/
theorem g_astore_nN {T : s_T} {Φ : s_P} {pc : Nat} {lv : s_V} {st : List Value} {h : s_H} {n kc ks : Nat} {j : Fin 4} {i : Nat} (hd : decode T.2.1 pc = .ok (.astore_n j, 1)) (hj : (j : Nat) = i) (hi : i < T.2.2.1) (k : s_G T Φ (pc + 1) (s_set lv i .null) st h n kc ks) : s_G T Φ pc lv (.null :: st) h n kc ks := by
  intro p l e R s m args below meth c X ad0 n0 A mc ms Qm C ad H locs cells slots ls S
  exact lv_astore_nN C.1 C.2.1 hd hj S.2.2.2.2.2.2.2.2.has hi rfl (fun ls' hl' => k p l e R s m args below meth c X ad0 n0 A mc ms Qm C ad H locs cells slots ls' (S.loc (S.2.2.2.2.2.2.2.2.set (v := .null) hl')))
theorem g_aload_nN {T : s_T} {Φ : s_P} {pc : Nat} {lv : s_V} {st : List Value} {h : s_H} {n kc ks : Nat} {j : Fin 4} {i : Nat} (hd : decode T.2.1 pc = .ok (.aload_n j, 1)) (hi : (j : Nat) = i) (hl : lv i = some .null) (k : s_G T Φ (pc + 1) lv (.null :: st) h n kc ks) : s_G T Φ pc lv st h n kc ks := by
  intro p l e R s m args below meth c X ad0 n0 A mc ms Qm C ad H locs cells slots ls S
  exact lv_aload_nN C.1 C.2.1 hd hi (S.2.2.2.2.2.2.2.2.2.2 i _ hl) (k p l e R s m args below meth c X ad0 n0 A mc ms Qm C ad H locs cells slots ls S)
def x_cp (σ : s_D) : Nat := (σ.2 1).toNatClampNeg
theorem d_ok.cpe {σ : s_D} {cnt cp : Nat} (ok : d_ok σ cnt cp) : x_cp σ = cp := by
  unfold x_cp
  rw [ok.2.2.1]
  have := ok.2.2.2.1
  exact nI_clamp (by omega)
/-- a command executed: whether it could be, the state behind it -/
noncomputable def x_exec (j : Nat) (v1 v2 : Int32) (S : x_S) : Bool × x_S :=
  match j with
  | 0 => if x_cn S.1 < 14 then (true, (d_add S.1 (x_cn S.1) v1 v2, S.2)) else (false, x_fail S 3)
  | 1 => (true, (d_put S.1 3 v1.toNatClampNeg 1, S.2))
  | 2 => (true, (d_put S.1 3 v1.toNatClampNeg 2, S.2))
  | 3 => (true, (d_put S.1 3 v1.toNatClampNeg 0, S.2))
  | 4 => (true, (d_drop S.1 v1.toNatClampNeg (x_cn S.1), S.2))
  | 5 => (true, (d_cap S.1 v1, S.2))
  | 6 => (true, (v_bn S.1 (x_cn S.1) (x_cp S.1) v1.toNatClampNeg, S.2))
  | 7 => (true, (d_put S.1 0 v1.toNatClampNeg v2, S.2))
  | 8 => (true, (d_put S.1 1 v1.toNatClampNeg v2, S.2))
  | _ => if d_room S.1 (x_cn S.1) < 0 then (false, x_fail S 3) else (true, (d_kps S.1 (r_se (u_best S.1 (x_cn S.1) (x_cp S.1))) (x_cn S.1), S.2))
theorem c_exec {h : s_H} {n b len cnt cp j : Nat} {tx : Nat → Int32} {S : x_S} {v1 v2 : Int32} (hw : s_sx h b tx len S) (hn : b + 93 ≤ n) (ok : d_ok S.1 cnt cp) (hj : j < 10) (h1 : x_k1 j = 1 → ∃ i, v1 = nI i ∧ i < cnt) (h6 : j = 6 → ∃ m, v1 = nI m ∧ m ≤ 50) :
    s_Mt TX6_execute 0 0 [.ref (b + 89), .ref (s_big + 100 + j), .int v1, .int v2, .ref (b + 6), .ref (b + 68)] h n (s_rp n (fun v9 h1 => v9 = some (.int (x_bi (x_exec j v1 v2 S).1)) ∧ s_sx h1 b tx len (x_exec j v1 v2 S).2 ∧ s_off3 h h1 b) s_no) := by
  have ecn := ok.cn
  have ecp := ok.cpe
  have hc14 := ok.2.1
  obtain ⟨hw0, htq, hq⟩ := id hw
  match j, hj with
  | 0, _ =>
    refine s_Mt_mono (c_X6_exec0 hw0 hn ok v1 v2) (fun o h1 n1 q => ⟨q.1, ?_⟩)
    simp only [x_exec]
    rw [ecn]
    rcases o with r | E
    · obtain ⟨-, q1, q2, q3⟩ := q
      by_cases e : cnt < 14
      · simp only [if_pos e] at q1 q2 ⊢
        exact ⟨q1, ⟨q2, htq, hq⟩, q3⟩
      · simp only [if_neg e] at q1 q2 ⊢
        exact ⟨q1, ⟨q2, htq, hq⟩, q3⟩
    · exact q.2
  | 1, _ =>
    obtain ⟨i, rfl, hi⟩ := h1 (by decide)
    have ei : (nI i).toNatClampNeg = i := nI_clamp (by omega)
    refine s_Mt_mono (c_X6_exec1 hw0 hn ok i hi v2) (fun o h1 n1 q => ⟨q.1, ?_⟩)
    simp only [x_exec]
    rw [ei]
    rcases o with r | E
    · obtain ⟨-, q1, q2, q3⟩ := q
      exact ⟨q1, ⟨q2, htq, hq⟩, q3⟩
    · exact q.2
  | 2, _ =>
    obtain ⟨i, rfl, hi⟩ := h1 (by decide)
    have ei : (nI i).toNatClampNeg = i := nI_clamp (by omega)
    refine s_Mt_mono (c_X6_exec2 hw0 hn ok i hi v2) (fun o h1 n1 q => ⟨q.1, ?_⟩)
    simp only [x_exec]
    rw [ei]
    rcases o with r | E
    · obtain ⟨-, q1, q2, q3⟩ := q
      exact ⟨q1, ⟨q2, htq, hq⟩, q3⟩
    · exact q.2
  | 3, _ =>
    obtain ⟨i, rfl, hi⟩ := h1 (by decide)
    have ei : (nI i).toNatClampNeg = i := nI_clamp (by omega)
    refine s_Mt_mono (c_X6_exec3 hw0 hn ok i hi v2) (fun o h1 n1 q => ⟨q.1, ?_⟩)
    simp only [x_exec]
    rw [ei]
    rcases o with r | E
    · obtain ⟨-, q1, q2, q3⟩ := q
      exact ⟨q1, ⟨q2, htq, hq⟩, q3⟩
    · exact q.2
  | 4, _ =>
    obtain ⟨i, rfl, hi⟩ := h1 (by decide)
    have ei : (nI i).toNatClampNeg = i := nI_clamp (by omega)
    refine s_Mt_mono (c_X6_exec4 hw0 hn ok i hi v2) (fun o h1 n1 q => ⟨q.1, ?_⟩)
    simp only [x_exec]
    rw [ei, ecn]
    rcases o with r | E
    · obtain ⟨-, q1, q2, q3⟩ := q
      exact ⟨q1, ⟨q2, htq, hq⟩, q3⟩
    · exact q.2
  | 5, _ =>
    refine s_Mt_mono (c_X6_exec5 hw0 hn ok v1 v2) (fun o h1 n1 q => ⟨q.1, ?_⟩)
    simp only [x_exec]
    rcases o with r | E
    · obtain ⟨-, q1, q2, q3⟩ := q
      exact ⟨q1, ⟨q2, htq, hq⟩, q3⟩
    · exact q.2
  | 6, _ =>
    obtain ⟨m, rfl, hm⟩ := h6 rfl
    have ei : (nI m).toNatClampNeg = m := nI_clamp (by omega)
    refine s_Mt_mono (c_X6_exec6 hw0 hn ok m (by omega) v2) (fun o h1 n1 q => ⟨q.1, ?_⟩)
    simp only [x_exec]
    rw [ei, ecn, ecp]
    rcases o with r | E
    · obtain ⟨-, q1, q2, q3⟩ := q
      exact ⟨q1, ⟨q2, htq, hq⟩, q3⟩
    · exact q.2
  | 7, _ =>
    obtain ⟨i, rfl, hi⟩ := h1 (by decide)
    have ei : (nI i).toNatClampNeg = i := nI_clamp (by omega)
    refine s_Mt_mono (c_X6_exec7 hw0 hn ok i hi v2) (fun o h1 n1 q => ⟨q.1, ?_⟩)
    simp only [x_exec]
    rw [ei]
    rcases o with r | E
    · obtain ⟨-, q1, q2, q3⟩ := q
      exact ⟨q1, ⟨q2, htq, hq⟩, q3⟩
    · exact q.2
  | 8, _ =>
    obtain ⟨i, rfl, hi⟩ := h1 (by decide)
    have ei : (nI i).toNatClampNeg = i := nI_clamp (by omega)
    refine s_Mt_mono (c_X6_exec8 hw0 hn ok i hi v2) (fun o h1 n1 q => ⟨q.1, ?_⟩)
    simp only [x_exec]
    rw [ei]
    rcases o with r | E
    · obtain ⟨-, q1, q2, q3⟩ := q
      exact ⟨q1, ⟨q2, htq, hq⟩, q3⟩
    · exact q.2
  | 9, _ =>
    refine s_Mt_mono (c_X6_exec9 hw0 hn ok v1 v2) (fun o h1 n1 q => ⟨q.1, ?_⟩)
    simp only [x_exec]
    rw [ecn, ecp]
    rcases o with r | E
    · obtain ⟨-, q1, q2, q3⟩ := q
      by_cases e : d_room S.1 cnt < 0
      · simp only [if_pos e] at q1 q2 ⊢
        exact ⟨q1, ⟨q2, htq, hq⟩, q3⟩
      · simp only [if_neg e] at q1 q2 ⊢
        exact ⟨q1, ⟨q2, htq, hq⟩, q3⟩
    · exact q.2
