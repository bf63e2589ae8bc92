/-! THE LAW'S SMALL HELPERS (written by wip/p67/law1.py) -/
/-- what holds of the planner between the law's calls: its state, what a disk keeps to, ten kept disks at most, the length of the text -/
def w_In (h : s_H) (b : Nat) (L : Nat) : Prop := ∃ (π : s_Pl) (cnt cp : Nat), s_pl h b π ∧ d_ok π.1 cnt cp ∧ π.2.2.2.2.1 ≤ 10 ∧ π.2.2.2.2.2.2.1 = L
theorem i_rng {x : Int32} {lo hi : Nat} (hl : lo < 100000) (hh : hi < 100000) (h : ¬ (x < nI lo ∨ nI hi < x)) : ∃ m, x = nI m ∧ lo ≤ m ∧ m ≤ hi := by
  have h1 : ¬ x < nI lo := fun z => h (Or.inl z)
  have h2 : ¬ nI hi < x := fun z => h (Or.inr z)
  rw [Int32.lt_iff_toInt_lt, nI_ti (by omega)] at h1 h2
  refine ⟨x.toInt.toNat, ?_, by omega, by omega⟩
  apply Int32.toInt_inj.mp
  rw [nI_ti (by omega)]
  omega
theorem i_in {π : s_Pl} {cnt cp : Nat} (ok : d_ok π.1 cnt cp) {x : Int32} (h : s_in π x) : ∃ i, i < cnt ∧ x = nI i := by
  obtain ⟨h1, h2⟩ := h
  have h14 := ok.2.1
  rw [ok.1, Int32.lt_iff_toInt_lt, nI_ti (by omega)] at h2
  rw [Int32.lt_iff_toInt_lt] at h1
  have h3 : ¬ x.toInt < 0 := h1
  refine ⟨x.toInt.toNat, by omega, ?_⟩
  apply Int32.toInt_inj.mp
  rw [nI_ti (by omega)]
  omega
theorem i_inn {π : s_Pl} {cnt cp : Nat} (ok : d_ok π.1 cnt cp) {i : Nat} (h : i < cnt) : s_in π (nI i) := by
  have h14 := ok.2.1
  exact ⟨nI_pos (by omega), by rw [ok.1]; exact nI_lt h (by omega)⟩
theorem hp_le (l : Nat) (h : l ≤ 10) : hp_l l + 1 ≤ 10 := by
  unfold hp_l
  split <;> omega
theorem pl_rem_l {π : s_Pl} (h : π.2.2.2.2.1 ≤ 10) : (pl_rem π).2.2.2.2.1 ≤ 10 := hp_le _ h

theorem wl_30 : Cond.classLink RL 30 "java/lang/IndexOutOfBoundsException" ∈ s_WL := s_WL_of 782 (by decide +kernel) rfl
theorem wl_24 : Cond.classLink RL 24 "java/lang/IllegalArgumentException" ∈ s_WL := s_WL_of 768 (by decide +kernel) rfl
theorem wl_109 : Cond.classLink RL 109 "java/lang/IllegalStateException" ∈ s_WL := s_WL_of 879 (by decide +kernel) rfl
theorem i_tm {a m : Int} : (0 ≤ a → 0 ≤ a.tmod m) ∧ (a ≤ 0 → a.tmod m ≤ 0) := ⟨fun h => Int.tmod_nonneg m h, fun h => by
  have h1 := Int.tmod_nonneg m (a := -a) (by omega)
  rw [Int.neg_tmod] at h1
  omega⟩
theorem i_rem (x : Int32) {m : Nat} (hm : m = 16 ∨ m = 80) : (x - x / nI m * nI m).toInt = x.toInt.tmod m := by
  have hx := Int32.toInt_lt x
  have hx2 := Int32.le_toInt x
  have ht : (nI m).toInt = (m : Int) := nI_ti (by omega)
  have hq := Int.mul_tdiv_add_tmod x.toInt m
  have hb := tmod_bounds (a := x.toInt) (M := m) (by omega)
  have hs := i_tm (a := x.toInt) (m := m)
  have e1 : (x / nI m).toInt = x.toInt.tdiv m := by
    rw [Int32.toInt_div, ht, Int.bmod_eq_of_le]
    · rcases hm with rfl | rfl <;> omega
    · rcases hm with rfl | rfl <;> omega
  have e2 : (x / nI m * nI m).toInt = x.toInt.tdiv m * m := by
    rw [Int32.toInt_mul, e1, ht, Int.bmod_eq_of_le]
    · rcases hm with rfl | rfl <;> omega
    · rcases hm with rfl | rfl <;> omega
  rw [Int32.toInt_sub, e2, Int.bmod_eq_of_le]
  · rcases hm with rfl | rfl <;> omega
  · rcases hm with rfl | rfl <;> omega
  · rcases hm with rfl | rfl <;> omega
theorem i_xor (x : Int32) {m : Nat} (hm : m = 16 ∨ m = 80) : 0 ≤ x ^^^ nI m ↔ 0 ≤ x.toInt := by
  have h1 : (x ^^^ nI m).toBitVec.msb = x.toBitVec.msb := by
    rw [Int32.toBitVec_xor, BitVec.msb_xor]
    rcases hm with rfl | rfl
    · rw [show (nI 16).toBitVec.msb = false by decide, Bool.xor_false]
    · rw [show (nI 80).toBitVec.msb = false by decide, Bool.xor_false]
  rw [BitVec.msb_eq_toInt, BitVec.msb_eq_toInt] at h1
  have h2 : ((x ^^^ nI m).toBitVec.toInt < 0) ↔ (x.toBitVec.toInt < 0) := decide_eq_decide.mp h1
  rw [Int32.le_iff_toInt_le]
  show (0 : Int) ≤ (x ^^^ nI m).toBitVec.toInt ↔ 0 ≤ x.toBitVec.toInt
  omega
theorem i_nat {z : Int32} {m : Nat} (h : 0 ≤ z.toInt ∧ z.toInt < m) (hm : m < 100000) : ∃ k, k < m ∧ some (Value.int z) = some (.int (nI k)) := by
  refine ⟨z.toInt.toNat, by omega, ?_⟩
  congr 2
  apply Int32.toInt_inj.mp
  rw [nI_ti (by omega)]
  omega
theorem c_fmod {h : s_H} {n : Nat} (x : Int32) {m : Nat} (hm : m = 16 ∨ m = 80) : s_Mt TJ9_floorMod_7cf53 0 0 [.int x, .int (nI m)] h n (s_rp n (fun r h1 => h1 = h ∧ ∃ k, k < m ∧ r = some (.int (nI k))) s_no) := by
  have hm0 : ¬ nI m = 0 := by rcases hm with rfl | rfl <;> decide
  have hr := i_rem x hm
  have hb := tmod_bounds (a := x.toInt) (M := m) (by omega)
  refine s_Mt_ofF rfl (by decide +kernel) (by exact Nat.le_of_ble_eq_true rfl) ?_
  refine g_iload_n dJ9_floorMod_7cf53_0 rfl (by rfl) ?_
  refine g_iload_n dJ9_floorMod_7cf53_1 rfl (by rfl) ?_
  refine g_irem dJ9_floorMod_7cf53_2 hm0 ?_
  refine g_istore_n dJ9_floorMod_7cf53_3 rfl (by decide) ?_
  refine g_iload_n dJ9_floorMod_7cf53_4 rfl (by rfl) ?_
  refine g_iload_n dJ9_floorMod_7cf53_5 rfl (by rfl) ?_
  refine g_ixor dJ9_floorMod_7cf53_6 ?_
  refine g_if_ge (tgt := 18) dJ9_floorMod_7cf53_7 (by decide) (fun c_7 => ?_) (fun c_7 => ?_)
  · refine g_iload_n dJ9_floorMod_7cf53_18 rfl (by rfl) ?_
    refine g_ireturn dJ9_floorMod_7cf53_19 rfl ?_
    exact ⟨rfl, rfl, i_nat ⟨by rw [hr]; first | exact i_tm.1 ((i_xor x hm).mp c_7) | omega, by rw [hr]; omega⟩ (by omega)⟩
  · have hneg : x.toInt < 0 := by
      have h9 : ¬ 0 ≤ x.toInt := fun z => c_7 ((i_xor x hm).mpr z)
      omega
    refine g_iload_n dJ9_floorMod_7cf53_10 rfl (by rfl) ?_
    refine g_if_eq (tgt := 18) dJ9_floorMod_7cf53_11 (by decide) (fun c_11 => ?_) (fun c_11 => ?_)
    · have hz : x.toInt.tmod m = 0 := by
        rw [← hr, c_11]
        rfl
      refine g_iload_n dJ9_floorMod_7cf53_18 rfl (by rfl) ?_
      refine g_ireturn dJ9_floorMod_7cf53_19 rfl ?_
      exact ⟨rfl, rfl, i_nat ⟨by rw [hr]; first | exact i_tm.1 ((i_xor x hm).mp c_7) | omega, by rw [hr]; omega⟩ (by omega)⟩
    · have hnz : ¬ x.toInt.tmod m = 0 := fun z => c_11 (by
        apply Int32.toInt_inj.mp
        rw [hr, z]
        rfl)
      have hle : x.toInt.tmod m ≤ 0 := i_tm.2 (by omega)
      have hr2 : ((x - x / nI m * nI m) + nI m).toInt = x.toInt.tmod m + m := by
        rw [Int32.toInt_add, hr, nI_ti (by omega), Int.bmod_eq_of_le]
        · omega
        · omega
      refine g_iload_n dJ9_floorMod_7cf53_14 rfl (by rfl) ?_
      refine g_iload_n dJ9_floorMod_7cf53_15 rfl (by rfl) ?_
      refine g_iadd dJ9_floorMod_7cf53_16 ?_
      refine g_ireturn dJ9_floorMod_7cf53_17 rfl ?_
      exact ⟨rfl, rfl, i_nat ⟨by rw [hr2]; omega, by rw [hr2]; omega⟩ (by omega)⟩
/-- the script of L ints lies outside -/
def s_Ot (L : Nat) (xs : Nat → Int32) : s_Om := fun s ad0 A => va_T .int (ad0 (s_big + 500)) L (fun j => .int (xs j)) A s s.heap
theorem gl_slen {L : Nat} {xs : Nat → Int32} {T : s_T} {Φ : s_P} {pc : Nat} {lv : s_V} {st : List Value} {h : s_H} {n kc ks : Nat} (hd : decode T.2.1 pc = .ok (.arraylength, 1))
    (k : s_GL (s_Ot L xs) T Φ (pc + 1) lv (.int (nI L) :: st) h n kc ks) : s_GL (s_Ot L xs) T Φ pc lv (.ref (s_big + 500) :: st) h n kc ks := by
  intro p l e R s m args below meth c X ad0 n0 A mc ms Qm C O ad H locs cells slots ls S
  have ea : ad (s_big + 500) = ad0 (s_big + 500) := S.2.2.1 _ (Or.inr (Nat.le_trans S.2.1 (Nat.le_add_right _ _)))
  have z := k p l e R s m args below meth c X ad0 n0 A mc ms Qm C O ad H locs cells slots ls S
  show W p l e R s m args below meth c H locs cells slots Qm (F0 m pc ls (.ref (ad (s_big + 500)) :: st.map (s_rv ad)))
  rw [ea]
  exact va_tlen C.1 C.2.1 O S.2.2.2.2.2.1 rfl hd z
theorem gl_sld {L : Nat} {xs : Nat → Int32} {T : s_T} {Φ : s_P} {pc : Nat} {lv : s_V} {st : List Value} {h : s_H} {n kc ks : Nat} {j : Nat} {x : Int32} (hL : L ≤ 260) (hd : decode T.2.1 pc = .ok (.iaload, 1)) (hi : x = nI j) (hj : j < L)
    (k : s_GL (s_Ot L xs) T Φ (pc + 1) lv (.int (xs j) :: st) h n kc ks) : s_GL (s_Ot L xs) T Φ pc lv (.int x :: .ref (s_big + 500) :: st) h n kc ks := by
  intro p l e R s m args below meth c X ad0 n0 A mc ms Qm C O ad H locs cells slots ls S
  subst hi
  have ea : ad (s_big + 500) = ad0 (s_big + 500) := S.2.2.1 _ (Or.inr (Nat.le_trans S.2.1 (Nat.le_add_right _ _)))
  have z := k p l e R s m args below meth c X ad0 n0 A mc ms Qm C O ad H locs cells slots ls S
  show W p l e R s m args below meth c H locs cells slots Qm (F0 m pc ls (.int (nI j) :: .ref (ad (s_big + 500)) :: st.map (s_rv ad)))
  rw [ea]
  exact va_ti C.1 C.2.1 O S.2.2.2.2.2.1 (fun z => z.elim (fun z => nI_pos (by omega) z) (fun z => by rw [nI_clamp (by omega)] at z; omega)) (by rw [nI_clamp (by omega)]; rfl) hd z
theorem s_Mt_ofL {T : s_T} {mc ms : Nat} {as : List Value} {h : s_H} {n : Nat} {Φ : s_P} (hh : T.2.2.2.2.1 = []) (hpl : plainName T.1.cls = true) (hl : (lg_sl as).length ≤ T.2.2.1) (k : ∀ (L : Nat) (xs : Nat → Int32), L ≤ 260 → s_GL (s_Ot L xs) T Φ 0 (s_ent as) [] h n mc ms) : s_Mt T mc ms as h n Φ := by
  intro l htr X ad sz
  refine vx_ofW (cc := T.2.1) (maxL := T.2.2.1) (ret := T.2.2.2.1) (ws' := s_WL) hpl (by simp only [s_hd, hh]) ?_
  intro p e s m args below meth c s₁ B hml htb hv
  obtain ⟨rfl, hsz, hn9, hP, hK, hD, hSP⟩ := hv
  subst hsz
  have hts := atoms_spec (ws := s_hd T :: s_WL) B.pre
  have htab : c.exceptionTable.toList = tableOf T.2.2.2.2.1 := by
    rw [hh]
    exact List.eq_nil_iff_forall_not_mem.mpr (fun x hx => htb x hx)
  rw [lg_entry_eq]
  obtain ⟨L, xs, hL, hT⟩ := hSP.2.sd.2.2.2.2
  exact k L xs hL p l e _ s m _ below meth c X ad n (va_A (s_ws X.2 ad n h) s.heap.size) mc ms _
    ⟨B.exec, B.bytes, hml, B.returns, findClass_of_methodNamed B.named, fun w hw => hts w (List.mem_cons_of_mem _ hw), htab, B.notSynchronized, htr, fun q hq => Or.inr hq, hK, hSP, (name_of_methodNamed B.named B.method).1, ⟨Nat.le_refl _, Nat.le_refl _, Nat.le_refl _, Nat.le_refl _⟩, s_Er_of B.exec B.bytes B.returns B.notSynchronized, s_Et_of htab B.notSynchronized⟩ hT
    ad s.heap [] 0 0 _ ⟨Nat.le_refl _, hn9, s_ag.rf, hP, hD.self, va_S.rf, by rw [Nat.zero_add]; exact Nat.le_refl _, by rw [Nat.zero_add]; exact Nat.le_refl _, s_ent_L hl⟩
theorem c_L_cell {h : s_H} {n j : Nat} (hj : j < 1000) : s_Mt TL_cell 0 0 [.ref (s_big + 500), .int (nI j)] h n (s_rp n (fun r h1 => h1 = h ∧ ∃ x, r = some (.int x)) s_no) := by
  refine s_Mt_ofL rfl (by decide) (by exact Nat.le_of_ble_eq_true rfl) (fun L xs hL => ?_)
  refine gl_iload_n dL_cell_0 rfl (by rfl) ?_
  refine gl_aload_n dL_cell_1 rfl (by rfl) ?_
  refine gl_slen dL_cell_2 ?_
  refine gl_icmp_ge (tgt := 12) dL_cell_3 (by decide) (fun _ => ?_) (fun c => ?_)
  · refine gl_iconst 0 dL_cell_12 (by rfl) ?_
    exact gl_ireturn dL_cell_13 rfl ⟨rfl, rfl, _, rfl⟩
  · refine gl_aload_n dL_cell_6 rfl (by rfl) ?_
    refine gl_iload_n dL_cell_7 rfl (by rfl) ?_
    have hjL : j < L := by
      rw [Int32.le_iff_toInt_le, nI_ti (by omega), nI_ti (by omega)] at c
      omega
    refine gl_sld hL dL_cell_8 rfl hjL ?_
    refine gl_goto (tgt := 13) dL_cell_9 (by decide) ?_
    exact gl_ireturn dL_cell_13 rfl ⟨rfl, rfl, _, rfl⟩
theorem c_L_of {h : s_H} {n j m : Nat} (hj : j < 1000) (hm : m = 16 ∨ m = 80) : s_Mt TL_of 0 0 [.ref (s_big + 500), .int (nI j), .int 0, .int (nI m)] h n (s_rp n (fun r h1 => h1 = h ∧ ∃ k, k < m ∧ r = some (.int (nI k))) s_no) := by
  refine s_Mt_of rfl (by decide) (by exact Nat.le_of_ble_eq_true rfl) ?_
  refine g_iload_n dL_of_0 rfl (by rfl) ?_
  refine g_aload_n dL_of_1 rfl (by rfl) ?_
  refine g_iload_n dL_of_2 rfl (by rfl) ?_
  refine g_callS_p (c_L_cell hj) dL_of_3 mL_cell rfl lL_7 sL_cell (by decide) rfl rfl (Nat.le_of_ble_eq_true rfl) (fun v9 h9 z9 => ?_)
  obtain ⟨rfl, x, rfl⟩ := z9
  refine g_iload_n dL_of_6 rfl (by rfl) ?_
  refine g_callS_p (c_fmod x hm) dL_of_7 mJ9_floorMod_7cf53 rfl lL_13 sJ9_floorMod_7cf53 (by decide) rfl rfl (Nat.le_of_ble_eq_true rfl) (fun v9 h9 z9 => ?_)
  obtain ⟨rfl, k, hk, rfl⟩ := z9
  refine g_iadd dL_of_10 ?_
  refine g_ireturn dL_of_11 rfl ⟨rfl, rfl, k, hk, ?_⟩
  rw [show (0 : Int32) = nI 0 from rfl, nI_add', Nat.zero_add]
theorem c_L_size {h : s_H} {n b : Nat} {π : s_Pl} (hP : s_pl h b π) (hn : b + 93 ≤ n) {cnt cp : Nat} (ok : d_ok π.1 cnt cp) {i : Nat} (hi : i < cnt) : s_Mt TL_size 1 6 [.ref b, .int (nI i)] h n (s_re (some (.int (π.1.1 0 i))) h n) := by
  have hb := hP.1
  unfold s_po at hb
  have h14 := ok.2.1
  refine s_Mt_ofH rfl (by decide) (by exact Nat.le_of_ble_eq_true rfl) ?_
  refine g_aload_n dL_size_0 rfl (by rfl) ?_
  refine g_iload_n dL_size_1 rfl (by rfl) ?_
  refine g_callV_x (c_X8_size hP hn ok (nI i)) dL_size_2 (mX8_size) rfl lL_41 iX8_size vX8_size (by decide) (by omega) (by exact hb) rfl rfl rfl rfl (Nat.le_of_ble_eq_true rfl) (Nat.le_of_ble_eq_true rfl) (Nat.le_of_ble_eq_true rfl) (fun v9 h9 z9 => ?_) (fun E9 h9 z9 => absurd (i_inn ok hi) z9.2.2)
  obtain ⟨rfl, e9, -⟩ := z9
  obtain rfl := e9.symm
  refine g_ireturn dL_size_5 rfl ?_
  exact ⟨by rw [nI_clamp (by omega)], rfl, rfl⟩
theorem c_L_value {h : s_H} {n b : Nat} {π : s_Pl} (hP : s_pl h b π) (hn : b + 93 ≤ n) {cnt cp : Nat} (ok : d_ok π.1 cnt cp) {i : Nat} (hi : i < cnt) : s_Mt TL_value 1 6 [.ref b, .int (nI i)] h n (s_re (some (.int (π.1.1 1 i))) h n) := by
  have hb := hP.1
  unfold s_po at hb
  have h14 := ok.2.1
  refine s_Mt_ofH rfl (by decide) (by exact Nat.le_of_ble_eq_true rfl) ?_
  refine g_aload_n dL_value_0 rfl (by rfl) ?_
  refine g_iload_n dL_value_1 rfl (by rfl) ?_
  refine g_callV_x (c_X8_value hP hn ok (nI i)) dL_value_2 (mX8_value) rfl lL_44 iX8_value vX8_value (by decide) (by omega) (by exact hb) rfl rfl rfl rfl (Nat.le_of_ble_eq_true rfl) (Nat.le_of_ble_eq_true rfl) (Nat.le_of_ble_eq_true rfl) (fun v9 h9 z9 => ?_) (fun E9 h9 z9 => absurd (i_inn ok hi) z9.2.2)
  obtain ⟨rfl, e9, -⟩ := z9
  obtain rfl := e9.symm
  refine g_ireturn dL_value_5 rfl ?_
  exact ⟨by rw [nI_clamp (by omega)], rfl, rfl⟩
theorem c_L_age {h : s_H} {n b : Nat} {π : s_Pl} (hP : s_pl h b π) (hn : b + 93 ≤ n) {cnt cp : Nat} (ok : d_ok π.1 cnt cp) {i : Nat} (hi : i < cnt) : s_Mt TL_age 1 6 [.ref b, .int (nI i)] h n (s_re (some (.int (π.1.1 2 i))) h n) := by
  have hb := hP.1
  unfold s_po at hb
  have h14 := ok.2.1
  refine s_Mt_ofH rfl (by decide) (by exact Nat.le_of_ble_eq_true rfl) ?_
  refine g_aload_n dL_age_0 rfl (by rfl) ?_
  refine g_iload_n dL_age_1 rfl (by rfl) ?_
  refine g_callV_x (c_X8_age hP hn ok (nI i)) dL_age_2 (mX8_age) rfl lL_47 iX8_age vX8_age (by decide) (by omega) (by exact hb) rfl rfl rfl rfl (Nat.le_of_ble_eq_true rfl) (Nat.le_of_ble_eq_true rfl) (Nat.le_of_ble_eq_true rfl) (fun v9 h9 z9 => ?_) (fun E9 h9 z9 => absurd (i_inn ok hi) z9.2.2)
  obtain ⟨rfl, e9, -⟩ := z9
  obtain rfl := e9.symm
  refine g_ireturn dL_age_5 rfl ?_
  exact ⟨by rw [nI_clamp (by omega)], rfl, rfl⟩
theorem c_L_state {h : s_H} {n b : Nat} {π : s_Pl} (hP : s_pl h b π) (hn : b + 93 ≤ n) {cnt cp : Nat} (ok : d_ok π.1 cnt cp) {i : Nat} (hi : i < cnt) : s_Mt TL_state 1 6 [.ref b, .int (nI i)] h n (s_re (some (.int (π.1.1 3 i))) h n) := by
  have hb := hP.1
  unfold s_po at hb
  have h14 := ok.2.1
  refine s_Mt_ofH rfl (by decide) (by exact Nat.le_of_ble_eq_true rfl) ?_
  refine g_aload_n dL_state_0 rfl (by rfl) ?_
  refine g_iload_n dL_state_1 rfl (by rfl) ?_
  refine g_callV_x (c_X8_state hP hn ok (nI i)) dL_state_2 (mX8_state) rfl lL_50 iX8_state vX8_state (by decide) (by omega) (by exact hb) rfl rfl rfl rfl (Nat.le_of_ble_eq_true rfl) (Nat.le_of_ble_eq_true rfl) (Nat.le_of_ble_eq_true rfl) (fun v9 h9 z9 => ?_) (fun E9 h9 z9 => absurd (i_inn ok hi) z9.2.2)
  obtain ⟨rfl, e9, -⟩ := z9
  obtain rfl := e9.symm
  refine g_ireturn dL_state_5 rfl ?_
  exact ⟨by rw [nI_clamp (by omega)], rfl, rfl⟩
theorem c_L_weight {h : s_H} {n b : Nat} {π : s_Pl} (hP : s_pl h b π) (hn : b + 93 ≤ n) {cnt cp : Nat} (ok : d_ok π.1 cnt cp) {i : Nat} (hi : i < cnt) : s_Mt TL_weight 1 6 [.ref b, .int (nI i)] h n (s_re (some (.int (d_wt π.1 i))) h n) := by
  have hb := hP.1
  unfold s_po at hb
  have h14 := ok.2.1
  refine s_Mt_ofH rfl (by decide) (by exact Nat.le_of_ble_eq_true rfl) ?_
  refine g_aload_n dL_weight_0 rfl (by rfl) ?_
  refine g_iload_n dL_weight_1 rfl (by rfl) ?_
  refine g_callV_x (c_X8_weight hP hn ok (nI i)) dL_weight_2 (mX8_weight) rfl lL_53 iX8_weight vX8_weight (by decide) (by omega) (by exact hb) rfl rfl rfl rfl (Nat.le_of_ble_eq_true rfl) (Nat.le_of_ble_eq_true rfl) (Nat.le_of_ble_eq_true rfl) (fun v9 h9 z9 => ?_) (fun E9 h9 z9 => absurd (i_inn ok hi) z9.2.2)
  obtain ⟨rfl, e9, -⟩ := z9
  obtain rfl := e9.symm
  refine g_ireturn dL_weight_5 rfl ?_
  exact ⟨by rw [nI_clamp (by omega)], rfl, rfl⟩
theorem c_L_weightAt {h : s_H} {n b : Nat} {π : s_Pl} (hP : s_pl h b π) (hn : b + 93 ≤ n) {cnt cp : Nat} (ok : d_ok π.1 cnt cp) {c : Nat} (hc : c ≤ 100) : s_Mt TL_weightAt 1 6 [.ref b, .int (nI c)] h n (s_rp n (fun r h1 => r = some (.int (r_wt (u_best π.1 cnt c))) ∧ s_pl h1 b π ∧ s_off h h1 b (b + 93)) s_no) := by
  have hb := hP.1
  unfold s_po at hb
  have hin : ¬ (nI c < 0 ∨ 100 < nI c) := fun z => z.elim (fun z => nI_pos (by omega) z) (fun z => by rw [show (100 : Int32) = nI 100 from rfl, Int32.lt_iff_toInt_lt, nI_ti (by omega), nI_ti (by omega)] at z; omega)
  refine s_Mt_ofH rfl (by decide) (by exact Nat.le_of_ble_eq_true rfl) ?_
  refine g_aload_n dL_weightAt_0 rfl (by rfl) ?_
  refine g_iload_n dL_weightAt_1 rfl (by rfl) ?_
  refine g_callV_x (c_X8_weightAt hP hn ok (nI c)) dL_weightAt_2 (mX8_weightAt) rfl lL_81 iX8_weightAt vX8_weightAt (by decide) (by omega) (by exact hb) rfl rfl rfl rfl (Nat.le_of_ble_eq_true rfl) (Nat.le_of_ble_eq_true rfl) (Nat.le_of_ble_eq_true rfl) (fun v9 h9 z9 => ?_) (fun E9 h9 z9 => absurd hin z9.2.2)
  obtain ⟨rfl, hP, qoff, -⟩ := z9
  refine g_ireturn dL_weightAt_5 rfl ?_
  exact ⟨rfl, by rw [nI_clamp (by omega)], hP, qoff⟩
theorem c_L_planAt {h : s_H} {n b : Nat} {π : s_Pl} (hP : s_pl h b π) (hn : b + 93 ≤ n) {cnt cp : Nat} (ok : d_ok π.1 cnt cp) {c : Nat} (hc : c ≤ 100) : s_Mt TL_planAt 1 6 [.ref b, .int (nI c)] h n (s_rp n (fun r h1 => r = some (.int (r_st (u_best π.1 cnt c))) ∧ s_pl h1 b π ∧ s_off h h1 b (b + 93)) s_no) := by
  have hb := hP.1
  unfold s_po at hb
  have hin : ¬ (nI c < 0 ∨ 100 < nI c) := fun z => z.elim (fun z => nI_pos (by omega) z) (fun z => by rw [show (100 : Int32) = nI 100 from rfl, Int32.lt_iff_toInt_lt, nI_ti (by omega), nI_ti (by omega)] at z; omega)
  refine s_Mt_ofH rfl (by decide) (by exact Nat.le_of_ble_eq_true rfl) ?_
  refine g_aload_n dL_planAt_0 rfl (by rfl) ?_
  refine g_iload_n dL_planAt_1 rfl (by rfl) ?_
  refine g_callV_x (c_X8_planAt hP hn ok (nI c)) dL_planAt_2 (mX8_planAt) rfl lL_84 iX8_planAt vX8_planAt (by decide) (by omega) (by exact hb) rfl rfl rfl rfl (Nat.le_of_ble_eq_true rfl) (Nat.le_of_ble_eq_true rfl) (Nat.le_of_ble_eq_true rfl) (fun v9 h9 z9 => ?_) (fun E9 h9 z9 => absurd hin z9.2.2)
  obtain ⟨rfl, hP, qoff, -⟩ := z9
  refine g_ireturn dL_planAt_5 rfl ?_
  exact ⟨rfl, by rw [nI_clamp (by omega)], hP, qoff⟩
theorem c_L_cell_ {h : s_H} {n b : Nat} {π : s_Pl} (hP : s_pl h b π) (hn : b + 93 ≤ n) {cnt cp : Nat} (ok : d_ok π.1 cnt cp) {r c : Nat} (hr : r ≤ u_nf π.1 cnt) (hc : c ≤ 100) : s_Mt TL_cell_ 1 6 [.ref b, .int (nI r), .int (nI c)] h n (s_rp n (fun v h1 => v = some (.int (u_cell π.1 cnt r c)) ∧ s_pl h1 b π ∧ s_off h h1 b (b + 93)) s_no) := by
  have hb := hP.1
  unfold s_po at hb
  have h14 := ok.2.1
  have hr9 := u_nf_le (σ := π.1) cnt
  have hin : ¬ (nI r < 0 ∨ s_bc (d_set π.1 0 cnt) < nI r ∨ nI c < 0 ∨ 100 < nI c) := by
    rintro (z | z | z | z)
    · exact nI_pos (by omega) z
    · rw [s_bc_free h14, Int32.lt_iff_toInt_lt, nI_ti (by omega), nI_ti (by omega)] at z
      omega
    · exact nI_pos (by omega) z
    · rw [show (100 : Int32) = nI 100 from rfl, Int32.lt_iff_toInt_lt, nI_ti (by omega), nI_ti (by omega)] at z
      omega
  refine s_Mt_ofH rfl (by decide) (by exact Nat.le_of_ble_eq_true rfl) ?_
  refine g_aload_n dL_cell__0 rfl (by rfl) ?_
  refine g_iload_n dL_cell__1 rfl (by rfl) ?_
  refine g_iload_n dL_cell__2 rfl (by rfl) ?_
  refine g_callV_x (c_X8_cell hP hn ok (nI r) (nI c)) dL_cell__3 (mX8_cell) rfl lL_96 iX8_cell vX8_cell (by decide) (by omega) (by exact hb) rfl rfl rfl rfl (Nat.le_of_ble_eq_true rfl) (Nat.le_of_ble_eq_true rfl) (Nat.le_of_ble_eq_true rfl) (fun v9 h9 z9 => ?_) (fun E9 h9 z9 => absurd hin z9.2.2)
  obtain ⟨rfl, hP, qoff, -⟩ := z9
  refine g_ireturn dL_cell__6 rfl ?_
  exact ⟨rfl, by rw [nI_clamp (by omega), nI_clamp (by omega)], hP, qoff⟩
theorem c_L_runBackups {h : s_H} {n b : Nat} {π : s_Pl} (hP : s_pl h b π) (hn : b + 93 ≤ n) {cnt cp : Nat} (ok : d_ok π.1 cnt cp) (hl : π.2.2.2.2.1 ≤ 10) {k : Nat} (hk1 : 1 ≤ k) (hk : k ≤ 50) : s_Mt TL_runBackups 1 6 [.ref b, .int (nI k)] h n (s_rp n (fun v h1 => v = some (.int (s_bc (v_un π.1 cnt cp k))) ∧ s_pl h1 b (v_bn π.1 cnt cp k, (pl_rem π).2) ∧ s_off h h1 b (b + 93)) s_no) := by
  have hb := hP.1
  unfold s_po at hb
  have hin : ¬ (nI k < 1 ∨ 50 < nI k) := by
    rintro (z | z)
    · rw [show (1 : Int32) = nI 1 from rfl, Int32.lt_iff_toInt_lt, nI_ti (by omega), nI_ti (by omega)] at z
      omega
    · rw [show (50 : Int32) = nI 50 from rfl, Int32.lt_iff_toInt_lt, nI_ti (by omega), nI_ti (by omega)] at z
      omega
  refine s_Mt_ofH rfl (by decide) (by exact Nat.le_of_ble_eq_true rfl) ?_
  refine g_aload_n dL_runBackups_0 rfl (by rfl) ?_
  refine g_iload_n dL_runBackups_1 rfl (by rfl) ?_
  refine g_callV_x (c_X8_runBackups hP hn ok hl (nI k)) dL_runBackups_2 (mX8_runBackups) rfl lL_87 iX8_runBackups vX8_runBackups (by decide) (by omega) (by exact hb) rfl rfl rfl rfl (Nat.le_of_ble_eq_true rfl) (Nat.le_of_ble_eq_true rfl) (Nat.le_of_ble_eq_true rfl) (fun v9 h9 z9 => ?_) (fun E9 h9 z9 => absurd hin z9.2.2)
  obtain ⟨rfl, hP, qoff, -⟩ := z9
  refine g_ireturn dL_runBackups_5 rfl ?_
  rw [nI_clamp (by omega)] at hP
  exact ⟨rfl, by rw [nI_clamp (by omega)], hP, qoff⟩
theorem c_L_addItem {h : s_H} {n b : Nat} {π : s_Pl} (hP : s_pl h b π) (hn : b + 93 ≤ n) {cnt cp : Nat} (ok : d_ok π.1 cnt cp) (hl : π.2.2.2.2.1 ≤ 10) {L : Nat} (hL : π.2.2.2.2.2.2.1 = L) (x : Int32) (y : Int32) : s_Mt TL_addItem 2 12 [.ref b, .int x, .int y] h n (s_rp n (fun r h1 => (∃ x9, r = some (.int x9)) ∧ w_In h1 b L) s_no) := by
  have hb := hP.1
  unfold s_po at hb
  have kx0 : ∀ h9, w_In h9 b L → s_G TL_addItem (s_rp n (fun r h1 => (∃ x9, r = some (.int x9)) ∧ w_In h1 b L) s_no) 8 (fun _ => none) [] h9 n 0 0 := by
    intro h9 hX
    refine g_sipush (-7777) dL_addItem_8 (by rfl) ?_
    refine g_ireturn dL_addItem_11 rfl ?_
    exact ⟨rfl, ⟨_, rfl⟩, hX⟩
  refine s_Mt_ofH rfl (by decide) (by exact Nat.le_of_ble_eq_true rfl) ?_
  refine g_aload_n dL_addItem_0 rfl (by rfl) ?_
  refine g_iload_n dL_addItem_1 rfl (by rfl) ?_
  refine g_iload_n dL_addItem_2 rfl (by rfl) ?_
  refine g_callV_x (c_X8_addItem hP hn ok hl x y) dL_addItem_3 (mX8_addItem) rfl lL_19 iX8_addItem vX8_addItem (by decide) (by omega) (by exact hb) rfl rfl rfl rfl (Nat.le_of_ble_eq_true rfl) (Nat.le_of_ble_eq_true rfl) (Nat.le_of_ble_eq_true rfl) (fun v9 h9 z9 => ?_) (fun E9 h9 z9 => by obtain ⟨rfl, rest9⟩ := z9; exact g_catch [] (0, 6, 7, 24) [] rfl (fun z hz => by cases hz) (by decide) (by decide) wl_24 (by decide) (Or.inl ⟨3, dL_addItem_7, rfl, rfl⟩) (by decide) (kx0 _ (by obtain ⟨e9, -⟩ := rest9; rw [e9]; exact ⟨π, cnt, cp, hP, ok, hl, hL⟩)))
  obtain ⟨rfl, hP, -, hin⟩ := z9
  refine g_ireturn dL_addItem_6 rfl ?_
  exact ⟨rfl, ⟨_, rfl⟩, by
      obtain ⟨a1, a2⟩ := hin
      obtain ⟨s, rfl, s1, s2⟩ := i_rng (lo := 1) (hi := 60) (by omega) (by omega) a1
      obtain ⟨v, rfl, -, v2⟩ := i_rng (lo := 0) (hi := 999) (by omega) (by omega) a2
      by_cases e14 : cnt = 14
      · rw [if_pos e14] at hP
        exact ⟨π, cnt, cp, hP, ok, hl, hL⟩
      · rw [if_neg e14] at hP
        have h14 := ok.2.1
        exact ⟨_, cnt + 1, cp, hP, ok.add (by omega) s1 s2 v2, pl_rem_l hl, hL⟩⟩
theorem c_L_removeItem {h : s_H} {n b : Nat} {π : s_Pl} (hP : s_pl h b π) (hn : b + 93 ≤ n) {cnt cp : Nat} (ok : d_ok π.1 cnt cp) (hl : π.2.2.2.2.1 ≤ 10) {L : Nat} (hL : π.2.2.2.2.2.2.1 = L) (x : Int32) : s_Mt TL_removeItem 1 6 [.ref b, .int x] h n (s_rp n (fun r h1 => (∃ x9, r = some (.int x9)) ∧ w_In h1 b L) s_no) := by
  have hb := hP.1
  unfold s_po at hb
  have kx0 : ∀ h9, w_In h9 b L → s_G TL_removeItem (s_rp n (fun r h1 => (∃ x9, r = some (.int x9)) ∧ w_In h1 b L) s_no) 7 (fun _ => none) [] h9 n 0 0 := by
    intro h9 hX
    refine g_sipush (-7777) dL_removeItem_7 (by rfl) ?_
    refine g_ireturn dL_removeItem_10 rfl ?_
    exact ⟨rfl, ⟨_, rfl⟩, hX⟩
  refine s_Mt_ofH rfl (by decide) (by exact Nat.le_of_ble_eq_true rfl) ?_
  refine g_aload_n dL_removeItem_0 rfl (by rfl) ?_
  refine g_iload_n dL_removeItem_1 rfl (by rfl) ?_
  refine g_callV_x (c_X8_removeItem hP hn ok hl x) dL_removeItem_2 (mX8_removeItem) rfl lL_26 iX8_removeItem vX8_removeItem (by decide) (by omega) (by exact hb) rfl rfl rfl rfl (Nat.le_of_ble_eq_true rfl) (Nat.le_of_ble_eq_true rfl) (Nat.le_of_ble_eq_true rfl) (fun v9 h9 z9 => ?_) (fun E9 h9 z9 => by obtain ⟨rfl, rest9⟩ := z9; exact g_catch [] (0, 5, 6, 30) [] rfl (fun z hz => by cases hz) (by decide) (by decide) wl_30 (by decide) (Or.inl ⟨2, dL_removeItem_6, rfl, rfl⟩) (by decide) (kx0 _ (by obtain ⟨e9, -⟩ := rest9; rw [e9]; exact ⟨π, cnt, cp, hP, ok, hl, hL⟩)))
  obtain ⟨rfl, hP, -, hin⟩ := z9
  refine g_ireturn dL_removeItem_5 rfl ?_
  exact ⟨rfl, ⟨_, rfl⟩, by
      obtain ⟨i, hi, rfl⟩ := i_in ok hin
      have h14 := ok.2.1
      rw [nI_clamp (by omega)] at hP
      exact ⟨_, cnt - 1, cp, hP, ok.drop hi, pl_rem_l hl, hL⟩⟩
theorem c_L_setSize {h : s_H} {n b : Nat} {π : s_Pl} (hP : s_pl h b π) (hn : b + 93 ≤ n) {cnt cp : Nat} (ok : d_ok π.1 cnt cp) (hl : π.2.2.2.2.1 ≤ 10) {L : Nat} (hL : π.2.2.2.2.2.2.1 = L) (x : Int32) (y : Int32) : s_Mt TL_setSize 2 12 [.ref b, .int x, .int y] h n (s_rp n (fun r h1 => (∃ x9, r = some (.int x9)) ∧ w_In h1 b L) s_no) := by
  have hb := hP.1
  unfold s_po at hb
  have kx0 : ∀ h9, w_In h9 b L → s_G TL_setSize (s_rp n (fun r h1 => (∃ x9, r = some (.int x9)) ∧ w_In h1 b L) s_no) 8 (fun _ => none) [] h9 n 0 0 := by
    intro h9 hX
    refine g_sipush (-7777) dL_setSize_8 (by rfl) ?_
    refine g_ireturn dL_setSize_11 rfl ?_
    exact ⟨rfl, ⟨_, rfl⟩, hX⟩
  have kx1 : ∀ h9, w_In h9 b L → s_G TL_setSize (s_rp n (fun r h1 => (∃ x9, r = some (.int x9)) ∧ w_In h1 b L) s_no) 13 (fun _ => none) [] h9 n 0 0 := by
    intro h9 hX
    refine g_sipush (-7777) dL_setSize_13 (by rfl) ?_
    refine g_ireturn dL_setSize_16 rfl ?_
    exact ⟨rfl, ⟨_, rfl⟩, hX⟩
  refine s_Mt_ofH rfl (by decide) (by exact Nat.le_of_ble_eq_true rfl) ?_
  refine g_aload_n dL_setSize_0 rfl (by rfl) ?_
  refine g_iload_n dL_setSize_1 rfl (by rfl) ?_
  refine g_iload_n dL_setSize_2 rfl (by rfl) ?_
  refine g_callV_x (c_X8_setSize hP hn ok hl x y) dL_setSize_3 (mX8_setSize) rfl lL_68 iX8_setSize vX8_setSize (by decide) (by omega) (by exact hb) rfl rfl rfl rfl (Nat.le_of_ble_eq_true rfl) (Nat.le_of_ble_eq_true rfl) (Nat.le_of_ble_eq_true rfl) (fun v9 h9 z9 => ?_) (fun E9 h9 z9 => by
    obtain ⟨hE, e9, -⟩ := z9
    by_cases hin9 : s_in π x
    · rw [if_pos hin9] at hE
      subst hE
      exact g_catch [(0, 6, 7, 30)] (0, 6, 12, 24) [] rfl (fun z hz => by
        rw [List.mem_singleton] at hz
        subst hz
        exact Or.inr ⟨by decide, wl_30, rfl⟩) (by decide) (by decide) wl_24 (by decide) (Or.inl ⟨3, dL_setSize_12, rfl, rfl⟩) (by decide) (kx1 _ (by rw [e9]; exact ⟨π, cnt, cp, hP, ok, hl, hL⟩))
    · rw [if_neg hin9] at hE
      subst hE
      exact g_catch [] (0, 6, 7, 30) [(0, 6, 12, 24)] rfl (fun z hz => by cases hz) (by decide) (by decide) wl_30 (by decide) (Or.inl ⟨3, dL_setSize_7, rfl, rfl⟩) (by decide) (kx0 _ (by rw [e9]; exact ⟨π, cnt, cp, hP, ok, hl, hL⟩)))
  obtain ⟨rfl, hP, -, hin⟩ := z9
  refine g_ireturn dL_setSize_6 rfl ?_
  exact ⟨rfl, ⟨_, rfl⟩, by
      obtain ⟨a1, a2⟩ := hin
      obtain ⟨s, rfl, s1, s2⟩ := i_rng (lo := 1) (hi := 60) (by omega) (by omega) a2
      exact ⟨_, cnt, cp, hP, ok.put0 s1 s2, pl_rem_l hl, hL⟩⟩
theorem c_L_setValue {h : s_H} {n b : Nat} {π : s_Pl} (hP : s_pl h b π) (hn : b + 93 ≤ n) {cnt cp : Nat} (ok : d_ok π.1 cnt cp) (hl : π.2.2.2.2.1 ≤ 10) {L : Nat} (hL : π.2.2.2.2.2.2.1 = L) (x : Int32) (y : Int32) : s_Mt TL_setValue 2 12 [.ref b, .int x, .int y] h n (s_rp n (fun r h1 => (∃ x9, r = some (.int x9)) ∧ w_In h1 b L) s_no) := by
  have hb := hP.1
  unfold s_po at hb
  have kx0 : ∀ h9, w_In h9 b L → s_G TL_setValue (s_rp n (fun r h1 => (∃ x9, r = some (.int x9)) ∧ w_In h1 b L) s_no) 8 (fun _ => none) [] h9 n 0 0 := by
    intro h9 hX
    refine g_sipush (-7777) dL_setValue_8 (by rfl) ?_
    refine g_ireturn dL_setValue_11 rfl ?_
    exact ⟨rfl, ⟨_, rfl⟩, hX⟩
  have kx1 : ∀ h9, w_In h9 b L → s_G TL_setValue (s_rp n (fun r h1 => (∃ x9, r = some (.int x9)) ∧ w_In h1 b L) s_no) 13 (fun _ => none) [] h9 n 0 0 := by
    intro h9 hX
    refine g_sipush (-7777) dL_setValue_13 (by rfl) ?_
    refine g_ireturn dL_setValue_16 rfl ?_
    exact ⟨rfl, ⟨_, rfl⟩, hX⟩
  refine s_Mt_ofH rfl (by decide) (by exact Nat.le_of_ble_eq_true rfl) ?_
  refine g_aload_n dL_setValue_0 rfl (by rfl) ?_
  refine g_iload_n dL_setValue_1 rfl (by rfl) ?_
  refine g_iload_n dL_setValue_2 rfl (by rfl) ?_
  refine g_callV_x (c_X8_setValue hP hn ok hl x y) dL_setValue_3 (mX8_setValue) rfl lL_71 iX8_setValue vX8_setValue (by decide) (by omega) (by exact hb) rfl rfl rfl rfl (Nat.le_of_ble_eq_true rfl) (Nat.le_of_ble_eq_true rfl) (Nat.le_of_ble_eq_true rfl) (fun v9 h9 z9 => ?_) (fun E9 h9 z9 => by
    obtain ⟨hE, e9, -⟩ := z9
    by_cases hin9 : s_in π x
    · rw [if_pos hin9] at hE
      subst hE
      exact g_catch [(0, 6, 7, 30)] (0, 6, 12, 24) [] rfl (fun z hz => by
        rw [List.mem_singleton] at hz
        subst hz
        exact Or.inr ⟨by decide, wl_30, rfl⟩) (by decide) (by decide) wl_24 (by decide) (Or.inl ⟨3, dL_setValue_12, rfl, rfl⟩) (by decide) (kx1 _ (by rw [e9]; exact ⟨π, cnt, cp, hP, ok, hl, hL⟩))
    · rw [if_neg hin9] at hE
      subst hE
      exact g_catch [] (0, 6, 7, 30) [(0, 6, 12, 24)] rfl (fun z hz => by cases hz) (by decide) (by decide) wl_30 (by decide) (Or.inl ⟨3, dL_setValue_7, rfl, rfl⟩) (by decide) (kx0 _ (by rw [e9]; exact ⟨π, cnt, cp, hP, ok, hl, hL⟩)))
  obtain ⟨rfl, hP, -, hin⟩ := z9
  refine g_ireturn dL_setValue_6 rfl ?_
  exact ⟨rfl, ⟨_, rfl⟩, by
      obtain ⟨a1, a2⟩ := hin
      obtain ⟨s, rfl, -, s2⟩ := i_rng (lo := 0) (hi := 999) (by omega) (by omega) a2
      exact ⟨_, cnt, cp, hP, ok.put1 s2, pl_rem_l hl, hL⟩⟩
theorem c_L_pin {h : s_H} {n b : Nat} {π : s_Pl} (hP : s_pl h b π) (hn : b + 93 ≤ n) {cnt cp : Nat} (ok : d_ok π.1 cnt cp) (hl : π.2.2.2.2.1 ≤ 10) {L : Nat} (hL : π.2.2.2.2.2.2.1 = L) (x : Int32) : s_Mt TL_pin 1 6 [.ref b, .int x] h n (s_rp n (fun r h1 => (∃ x9, r = some (.int x9)) ∧ w_In h1 b L) s_no) := by
  have hb := hP.1
  unfold s_po at hb
  have kx0 : ∀ h9, w_In h9 b L → s_G TL_pin (s_rp n (fun r h1 => (∃ x9, r = some (.int x9)) ∧ w_In h1 b L) s_no) 7 (fun _ => none) [] h9 n 0 0 := by
    intro h9 hX
    refine g_sipush (-7777) dL_pin_7 (by rfl) ?_
    refine g_ireturn dL_pin_10 rfl ?_
    exact ⟨rfl, ⟨_, rfl⟩, hX⟩
  refine s_Mt_ofH rfl (by decide) (by exact Nat.le_of_ble_eq_true rfl) ?_
  refine g_aload_n dL_pin_0 rfl (by rfl) ?_
  refine g_iload_n dL_pin_1 rfl (by rfl) ?_
  refine g_callV_x (c_X8_pin hP hn ok hl x) dL_pin_2 (mX8_pin) rfl lL_32 iX8_pin vX8_pin (by decide) (by omega) (by exact hb) rfl rfl rfl rfl (Nat.le_of_ble_eq_true rfl) (Nat.le_of_ble_eq_true rfl) (Nat.le_of_ble_eq_true rfl) (fun v9 h9 z9 => ?_) (fun E9 h9 z9 => by obtain ⟨rfl, rest9⟩ := z9; exact g_catch [] (0, 5, 6, 30) [] rfl (fun z hz => by cases hz) (by decide) (by decide) wl_30 (by decide) (Or.inl ⟨2, dL_pin_6, rfl, rfl⟩) (by decide) (kx0 _ (by obtain ⟨e9, -⟩ := rest9; rw [e9]; exact ⟨π, cnt, cp, hP, ok, hl, hL⟩)))
  obtain ⟨rfl, hP, -, hin⟩ := z9
  refine g_ireturn dL_pin_5 rfl ?_
  exact ⟨rfl, ⟨_, rfl⟩, ⟨_, cnt, cp, hP, ok.put3 (st := 1) (by omega), pl_rem_l hl, hL⟩⟩
theorem c_L_exclude {h : s_H} {n b : Nat} {π : s_Pl} (hP : s_pl h b π) (hn : b + 93 ≤ n) {cnt cp : Nat} (ok : d_ok π.1 cnt cp) (hl : π.2.2.2.2.1 ≤ 10) {L : Nat} (hL : π.2.2.2.2.2.2.1 = L) (x : Int32) : s_Mt TL_exclude 1 6 [.ref b, .int x] h n (s_rp n (fun r h1 => (∃ x9, r = some (.int x9)) ∧ w_In h1 b L) s_no) := by
  have hb := hP.1
  unfold s_po at hb
  have kx0 : ∀ h9, w_In h9 b L → s_G TL_exclude (s_rp n (fun r h1 => (∃ x9, r = some (.int x9)) ∧ w_In h1 b L) s_no) 7 (fun _ => none) [] h9 n 0 0 := by
    intro h9 hX
    refine g_sipush (-7777) dL_exclude_7 (by rfl) ?_
    refine g_ireturn dL_exclude_10 rfl ?_
    exact ⟨rfl, ⟨_, rfl⟩, hX⟩
  refine s_Mt_ofH rfl (by decide) (by exact Nat.le_of_ble_eq_true rfl) ?_
  refine g_aload_n dL_exclude_0 rfl (by rfl) ?_
  refine g_iload_n dL_exclude_1 rfl (by rfl) ?_
  refine g_callV_x (c_X8_exclude hP hn ok hl x) dL_exclude_2 (mX8_exclude) rfl lL_35 iX8_exclude vX8_exclude (by decide) (by omega) (by exact hb) rfl rfl rfl rfl (Nat.le_of_ble_eq_true rfl) (Nat.le_of_ble_eq_true rfl) (Nat.le_of_ble_eq_true rfl) (fun v9 h9 z9 => ?_) (fun E9 h9 z9 => by obtain ⟨rfl, rest9⟩ := z9; exact g_catch [] (0, 5, 6, 30) [] rfl (fun z hz => by cases hz) (by decide) (by decide) wl_30 (by decide) (Or.inl ⟨2, dL_exclude_6, rfl, rfl⟩) (by decide) (kx0 _ (by obtain ⟨e9, -⟩ := rest9; rw [e9]; exact ⟨π, cnt, cp, hP, ok, hl, hL⟩)))
  obtain ⟨rfl, hP, -, hin⟩ := z9
  refine g_ireturn dL_exclude_5 rfl ?_
  exact ⟨rfl, ⟨_, rfl⟩, ⟨_, cnt, cp, hP, ok.put3 (st := 2) (by omega), pl_rem_l hl, hL⟩⟩
theorem c_L_release {h : s_H} {n b : Nat} {π : s_Pl} (hP : s_pl h b π) (hn : b + 93 ≤ n) {cnt cp : Nat} (ok : d_ok π.1 cnt cp) (hl : π.2.2.2.2.1 ≤ 10) {L : Nat} (hL : π.2.2.2.2.2.2.1 = L) (x : Int32) : s_Mt TL_release 1 6 [.ref b, .int x] h n (s_rp n (fun r h1 => (∃ x9, r = some (.int x9)) ∧ w_In h1 b L) s_no) := by
  have hb := hP.1
  unfold s_po at hb
  have kx0 : ∀ h9, w_In h9 b L → s_G TL_release (s_rp n (fun r h1 => (∃ x9, r = some (.int x9)) ∧ w_In h1 b L) s_no) 7 (fun _ => none) [] h9 n 0 0 := by
    intro h9 hX
    refine g_sipush (-7777) dL_release_7 (by rfl) ?_
    refine g_ireturn dL_release_10 rfl ?_
    exact ⟨rfl, ⟨_, rfl⟩, hX⟩
  refine s_Mt_ofH rfl (by decide) (by exact Nat.le_of_ble_eq_true rfl) ?_
  refine g_aload_n dL_release_0 rfl (by rfl) ?_
  refine g_iload_n dL_release_1 rfl (by rfl) ?_
  refine g_callV_x (c_X8_release hP hn ok hl x) dL_release_2 (mX8_release) rfl lL_38 iX8_release vX8_release (by decide) (by omega) (by exact hb) rfl rfl rfl rfl (Nat.le_of_ble_eq_true rfl) (Nat.le_of_ble_eq_true rfl) (Nat.le_of_ble_eq_true rfl) (fun v9 h9 z9 => ?_) (fun E9 h9 z9 => by obtain ⟨rfl, rest9⟩ := z9; exact g_catch [] (0, 5, 6, 30) [] rfl (fun z hz => by cases hz) (by decide) (by decide) wl_30 (by decide) (Or.inl ⟨2, dL_release_6, rfl, rfl⟩) (by decide) (kx0 _ (by obtain ⟨e9, -⟩ := rest9; rw [e9]; exact ⟨π, cnt, cp, hP, ok, hl, hL⟩)))
  obtain ⟨rfl, hP, -, hin⟩ := z9
  refine g_ireturn dL_release_5 rfl ?_
  exact ⟨rfl, ⟨_, rfl⟩, ⟨_, cnt, cp, hP, ok.put3 (st := 0) (by omega), pl_rem_l hl, hL⟩⟩
theorem c_L_setCapacity {h : s_H} {n b : Nat} {π : s_Pl} (hP : s_pl h b π) (hn : b + 93 ≤ n) {cnt cp : Nat} (ok : d_ok π.1 cnt cp) (hl : π.2.2.2.2.1 ≤ 10) {L : Nat} (hL : π.2.2.2.2.2.2.1 = L) (x : Int32) : s_Mt TL_setCapacity 1 6 [.ref b, .int x] h n (s_rp n (fun r h1 => (∃ x9, r = some (.int x9)) ∧ w_In h1 b L) s_no) := by
  have hb := hP.1
  unfold s_po at hb
  have kx0 : ∀ h9, w_In h9 b L → s_G TL_setCapacity (s_rp n (fun r h1 => (∃ x9, r = some (.int x9)) ∧ w_In h1 b L) s_no) 7 (fun _ => none) [] h9 n 0 0 := by
    intro h9 hX
    refine g_sipush (-7777) dL_setCapacity_7 (by rfl) ?_
    refine g_ireturn dL_setCapacity_10 rfl ?_
    exact ⟨rfl, ⟨_, rfl⟩, hX⟩
  refine s_Mt_ofH rfl (by decide) (by exact Nat.le_of_ble_eq_true rfl) ?_
  refine g_aload_n dL_setCapacity_0 rfl (by rfl) ?_
  refine g_iload_n dL_setCapacity_1 rfl (by rfl) ?_
  refine g_callV_x (c_X8_setCapacity hP hn ok hl x) dL_setCapacity_2 (mX8_setCapacity) rfl lL_78 iX8_setCapacity vX8_setCapacity (by decide) (by omega) (by exact hb) rfl rfl rfl rfl (Nat.le_of_ble_eq_true rfl) (Nat.le_of_ble_eq_true rfl) (Nat.le_of_ble_eq_true rfl) (fun v9 h9 z9 => ?_) (fun E9 h9 z9 => by obtain ⟨rfl, rest9⟩ := z9; exact g_catch [] (0, 5, 6, 24) [] rfl (fun z hz => by cases hz) (by decide) (by decide) wl_24 (by decide) (Or.inl ⟨2, dL_setCapacity_6, rfl, rfl⟩) (by decide) (kx0 _ (by obtain ⟨e9, -⟩ := rest9; rw [e9]; exact ⟨π, cnt, cp, hP, ok, hl, hL⟩)))
  obtain ⟨rfl, hP, -, hin⟩ := z9
  refine g_ireturn dL_setCapacity_5 rfl ?_
  exact ⟨rfl, ⟨_, rfl⟩, by
      obtain ⟨c, rfl, -, c2⟩ := i_rng (lo := 0) (hi := 100) (by omega) (by omega) hin
      exact ⟨_, cnt, c, hP, ok.cap c2, pl_rem_l hl, hL⟩⟩
theorem c_L_pinBest {h : s_H} {n b : Nat} {π : s_Pl} (hP : s_pl h b π) (hn : b + 93 ≤ n) {cnt cp : Nat} (ok : d_ok π.1 cnt cp) (hl : π.2.2.2.2.1 ≤ 10) {L : Nat} (hL : π.2.2.2.2.2.2.1 = L) : s_Mt TL_pinBest 1 6 [.ref b] h n (s_rp n (fun r h1 => (∃ x9, r = some (.int x9)) ∧ w_In h1 b L) s_no) := by
  have hb := hP.1
  unfold s_po at hb
  have kx0 : ∀ h9, w_In h9 b L → s_G TL_pinBest (s_rp n (fun r h1 => (∃ x9, r = some (.int x9)) ∧ w_In h1 b L) s_no) 6 (fun _ => none) [] h9 n 0 0 := by
    intro h9 hX
    refine g_sipush (-7777) dL_pinBest_6 (by rfl) ?_
    refine g_ireturn dL_pinBest_9 rfl ?_
    exact ⟨rfl, ⟨_, rfl⟩, hX⟩
  refine s_Mt_ofH rfl (by decide) (by exact Nat.le_of_ble_eq_true rfl) ?_
  refine g_aload_n dL_pinBest_0 rfl (by rfl) ?_
  refine g_callV_x (c_X8_pinBest hP hn ok hl) dL_pinBest_1 (mX8_pinBest) rfl lL_105 iX8_pinBest vX8_pinBest (by decide) (by omega) (by exact hb) rfl rfl rfl rfl (Nat.le_of_ble_eq_true rfl) (Nat.le_of_ble_eq_true rfl) (Nat.le_of_ble_eq_true rfl) (fun v9 h9 z9 => ?_) (fun E9 h9 z9 => by obtain ⟨rfl, rest9⟩ := z9; exact g_catch [] (0, 4, 5, 109) [] rfl (fun z hz => by cases hz) (by decide) (by decide) wl_109 (by decide) (Or.inl ⟨1, dL_pinBest_5, rfl, rfl⟩) (by decide) (kx0 _ ⟨π, cnt, cp, rest9.1, ok, hl, hL⟩))
  obtain ⟨rfl, hP, -, hin⟩ := z9
  refine g_ireturn dL_pinBest_4 rfl ?_
  exact ⟨rfl, ⟨_, rfl⟩, ⟨_, cnt, cp, hP, ok.kps _, pl_rem_l hl, hL⟩⟩
theorem c_Lg_runBackups {h : s_H} {n b : Nat} {π : s_Pl} (hP : s_pl h b π) (hn : b + 93 ≤ n) {cnt cp : Nat} (ok : d_ok π.1 cnt cp) (hl : π.2.2.2.2.1 ≤ 10) {L : Nat} (hL : π.2.2.2.2.2.2.1 = L) (x : Int32) : s_Mt TL_runBackups 1 6 [.ref b, .int x] h n (s_rp n (fun r h1 => (∃ x9, r = some (.int x9)) ∧ w_In h1 b L) s_no) := by
  have hb := hP.1
  unfold s_po at hb
  have kx0 : ∀ h9, w_In h9 b L → s_G TL_runBackups (s_rp n (fun r h1 => (∃ x9, r = some (.int x9)) ∧ w_In h1 b L) s_no) 7 (fun _ => none) [] h9 n 0 0 := by
    intro h9 hX
    refine g_sipush (-7777) dL_runBackups_7 (by rfl) ?_
    refine g_ireturn dL_runBackups_10 rfl ?_
    exact ⟨rfl, ⟨_, rfl⟩, hX⟩
  refine s_Mt_ofH rfl (by decide) (by exact Nat.le_of_ble_eq_true rfl) ?_
  refine g_aload_n dL_runBackups_0 rfl (by rfl) ?_
  refine g_iload_n dL_runBackups_1 rfl (by rfl) ?_
  refine g_callV_x (c_X8_runBackups hP hn ok hl x) dL_runBackups_2 (mX8_runBackups) rfl lL_87 iX8_runBackups vX8_runBackups (by decide) (by omega) (by exact hb) rfl rfl rfl rfl (Nat.le_of_ble_eq_true rfl) (Nat.le_of_ble_eq_true rfl) (Nat.le_of_ble_eq_true rfl) (fun v9 h9 z9 => ?_) (fun E9 h9 z9 => by obtain ⟨rfl, rest9⟩ := z9; exact g_catch [] (0, 5, 6, 24) [] rfl (fun z hz => by cases hz) (by decide) (by decide) wl_24 (by decide) (Or.inl ⟨2, dL_runBackups_6, rfl, rfl⟩) (by decide) (kx0 _ (by obtain ⟨e9, -⟩ := rest9; rw [e9]; exact ⟨π, cnt, cp, hP, ok, hl, hL⟩)))
  obtain ⟨rfl, hP, -, hin⟩ := z9
  refine g_ireturn dL_runBackups_5 rfl ?_
  exact ⟨rfl, ⟨_, rfl⟩, ⟨_, cnt, cp, hP, v_bn_ok ok _, pl_rem_l hl, hL⟩⟩
