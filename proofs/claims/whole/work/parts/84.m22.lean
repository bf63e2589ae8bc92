/-! THE MODEL: the script's world; words, numbers -/
/-- nothing but the model has changed, and not its copy `before` -/
def m_of (h h1 : s_H) (m : Nat) : Prop := ∀ j, (j < m ∨ m + 21 ≤ j ∨ j = m + 14) → h1 j = h j
theorem m_of.rf {h : s_H} {m : Nat} : m_of h h m := fun _ _ => rfl
theorem m_of.trans {h h1 h2 : s_H} {m : Nat} (q : m_of h h1 m) (r : m_of h1 h2 m) : m_of h h2 m := fun j hj => (r j hj).trans (q j hj)
theorem m_of.w {h h1 h2 : s_H} {m a b : Nat} (q : m_of h h1 m) (r : s_off h1 h2 a b) (z : m ≤ a ∧ b ≤ m + 21 ∧ (b ≤ m + 14 ∨ m + 15 ≤ a)) : m_of h h2 m := fun j hj => (r j (by omega)).trans (q j hj)
theorem m_of.w2 {h h1 h2 : s_H} {m a b c e : Nat} (q : m_of h h1 m) (r : s_off2 h1 h2 a b c e) (z : m ≤ a ∧ b ≤ m + 14 ∧ m + 15 ≤ c ∧ e ≤ m + 21) : m_of h h2 m := fun j hj => (r j (by omega) (by omega)).trans (q j hj)
theorem m_of.off {h h1 : s_H} {m : Nat} (q : m_of h h1 m) : s_off h h1 m (m + 21) := fun j hj => q j (by omega)
def m_kx (I0 tm tx : Nat → Int32) (len : Nat) : Prop := m_tx tm tx len ∧ I0 9 = nI len ∧ len ≤ 500
/-- the present token -/
def m_tkn (I tx : Nat → Int32) (len dp : Nat) (S : x_S) : Prop := I 15 = nI dp ∧ I 16 = nI S.2.2.2.2.2.2 ∧ S.2.2.2.1 ≤ len ∧ I 17 = nI S.2.2.2.1 ∧ S.2.2.2.2.2.1 ≤ S.2.2.2.1 ∧ I 18 = nI S.2.2.2.2.2.1 ∧ I 19 = m_kd S.2.2.2.2.1 ∧ (S.2.2.2.2.1 = 2 → I 20 = x_nm tx (S.2.2.2.1 - S.2.2.2.2.2.1) S.2.2.2.2.2.1 0)
/-- the place behind the present token only -/
def m_tq (I : Nat → Int32) (len dp : Nat) (S : x_S) : Prop := I 15 = nI dp ∧ I 16 = nI S.2.2.2.2.2.2 ∧ S.2.2.2.1 ≤ len ∧ I 17 = nI S.2.2.2.1
def m_ss (h : s_H) (m : Nat) (I0 sn : Nat → Int32) (P : Nat → Nat → Int32) (tm rp tx : Nat → Int32) (len dp : Nat) (S : x_S) : Prop :=
  ∃ I w : Nat → Int32, m_pl h m I w sn P tm rp ∧ (∀ k, k < 15 ∨ 22 < k → I k = I0 k) ∧ I 21 = S.2.1 ∧ I 22 = S.2.2.1 ∧ (∃ cnt cp, d_ok S.1 cnt cp ∧ d_eq cnt (m_D w) S.1) ∧ (S.2.1 = 0 → m_tkn I tx len dp S)
def m_s0 (h : s_H) (m : Nat) (I0 sn : Nat → Int32) (P : Nat → Nat → Int32) (tm rp : Nat → Int32) (len dp : Nat) (S : x_S) : Prop :=
  ∃ I w : Nat → Int32, m_pl h m I w sn P tm rp ∧ (∀ k, k < 15 ∨ 22 < k → I k = I0 k) ∧ I 21 = S.2.1 ∧ I 22 = S.2.2.1 ∧ (∃ cnt cp, d_ok S.1 cnt cp ∧ d_eq cnt (m_D w) S.1) ∧ m_tq I len dp S
theorem m_tkn.q {I tx : Nat → Int32} {len dp : Nat} {S : x_S} (q : m_tkn I tx len dp S) : m_tq I len dp S := ⟨q.1, q.2.1, q.2.2.1, q.2.2.2.1⟩
theorem m_ss.s0 {h : s_H} {m len dp : Nat} {I0 sn tm rp tx : Nat → Int32} {P : Nat → Nat → Int32} {S : x_S} (q : m_ss h m I0 sn P tm rp tx len dp S) (hg : S.2.1 = 0) : m_s0 h m I0 sn P tm rp len dp S := by
  obtain ⟨I, w, a1, a2, a3, a4, a5, a6⟩ := q
  exact ⟨I, w, a1, a2, a3, a4, a5, (a6 hg).q⟩
theorem m_ss.hm {h : s_H} {m len dp : Nat} {I0 sn tm rp tx : Nat → Int32} {P : Nat → Nat → Int32} {S : x_S} (q : m_ss h m I0 sn P tm rp tx len dp S) : ∃ J w, m_at h m J w ∧ J 21 = S.2.1 := by
  obtain ⟨I, w, a1, a2, a3, a4, a5, a6⟩ := q
  exact ⟨I, w, a1.1, a3⟩
theorem m_kd_i {k : Int32} : (m_kd k = 0 ↔ k = 0) ∧ (m_kd k = 3 ↔ k = 1) ∧ (m_kd k = 2 ↔ k = 2) ∧ (m_kd k = 1 ↔ k = 59) ∧ (m_kd k = 5 ↔ k = 40) ∧ (m_kd k = 6 ↔ k = 41) := by
  unfold m_kd
  by_cases a : k = 0
  · subst a; decide
  by_cases b : k = 1
  · subst b; decide
  by_cases c : k = 2
  · subst c; decide
  by_cases d : k = 59
  · subst d; decide
  by_cases e : k = 40
  · subst e; decide
  by_cases f : k = 41
  · subst f; decide
  rw [if_neg a, if_neg b, if_neg c, if_neg d, if_neg e, if_neg f]
  exact ⟨⟨fun z => absurd z (by decide), fun z => absurd z a⟩, ⟨fun z => absurd z (by decide), fun z => absurd z b⟩, ⟨fun z => absurd z (by decide), fun z => absurd z c⟩, ⟨fun z => absurd z (by decide), fun z => absurd z d⟩, ⟨fun z => absurd z (by decide), fun z => absurd z e⟩, ⟨fun z => absurd z (by decide), fun z => absurd z f⟩⟩
theorem nI_any (x : Int32) : nI x.toBitVec.toNat = x := by
  apply Int32.toBitVec_inj.mp
  show BitVec.ofNat 32 _ = _
  simp
theorem k_b_in : ∀ i, i < 12 → ∀ j, j < s_len.getD i 0 → 0 ≤ k_b i j ∧ k_b i j ≤ 127 := by decide +kernel

theorem c_X9_isWord {h : s_H} {n m len dp : Nat} {I0 sn tm rp tx : Nat → Int32} {P : Nat → Nat → Int32} {S : x_S} (hw : m_ss h m I0 sn P tm rp tx len dp S) (hK : m_kx I0 tm tx len) (hn : m + 21 ≤ n) {i : Nat} (hi : i < 12) : s_Mt TX9_isWord 0 0 [.ref m, .ref (s_big + i)] h n (s_re (some (.int (x_bi (decide (S.2.1 = 0) && x_is tx S.2.2.2.1 S.2.2.2.2.1 S.2.2.2.2.2.1 i)))) h n) := by
  obtain ⟨I, w, hP, hfr, h21, h22, hD, htk⟩ := id hw
  have hm := hP.1.1
  have hx := hP.2.2.2.2.2.1
  have hoff : m_of h h m := m_of.rf
  have hK5 := hK.2.2
  have hl9 := k_len i hi
  have no : ∀ j : Nat, s_G TX9_isWord (s_re (some (.int (x_bi false))) h n) 39 (s_lvs [(0, .ref m), (1, .ref (s_big + i)), (2, .int 0), (3, .int (nI j))]) [] h n 0 0 := by
    intro j
    refine g_iload_n dX9_isWord_39 rfl (by rfl) ?_
    refine g_if_eq (tgt := 82) dX9_isWord_40 (by decide) (fun _ => ?_) (fun c_40 => absurd rfl c_40)
    refine g_iload_n dX9_isWord_82 rfl (by rfl) ?_
    refine g_zreturn dX9_isWord_83 rfl (by decide) ?_
    exact ⟨rfl, rfl, rfl⟩
  have loop : S.2.2.2.1 ≤ len → S.2.2.2.2.2.1 ≤ S.2.2.2.1 → I 18 = nI S.2.2.2.2.2.1 → S.2.2.2.1 - S.2.2.2.2.2.1 = s_len.getD i 0 → ∀ (r j : Nat), j + r = s_len.getD i 0 → s_G TX9_isWord (s_re (some (.int (x_bi (x_mt tx S.2.2.2.2.2.1 i r j)))) h n) 39 (s_lvs [(0, .ref m), (1, .ref (s_big + i)), (2, .int 1), (3, .int (nI j))]) [] h n 0 0 := by
    intro hq htq h18 hqt r
    induction r with
    | zero =>
      intro j hj
      refine g_iload_n dX9_isWord_39 rfl (by rfl) ?_
      refine g_if_eq (tgt := 82) dX9_isWord_40 (by decide) (fun c_40 => absurd c_40 (by decide)) (fun _ => ?_)
      refine g_iload_n dX9_isWord_43 rfl (by rfl) ?_
      refine g_aload_n dX9_isWord_44 rfl (by rfl) ?_
      refine g_callT (c_length hi) hi dX9_isWord_45 mJ0_length_8abf5 rfl rfl lX9_186 iJ0_length_8abf5 vJ0_length_8abf5 (by decide) rfl rfl (Nat.le_of_ble_eq_true rfl) ?_
      refine g_icmp_ge (tgt := 82) dX9_isWord_48 (by decide) (fun _ => ?_) (fun c_48 => absurd (nI_le (by omega) (by omega)) c_48)
      refine g_iload_n dX9_isWord_82 rfl (by rfl) ?_
      refine g_zreturn dX9_isWord_83 rfl (by decide) ?_
      exact ⟨rfl, rfl, rfl⟩
    | succ r ih =>
      intro j hj
      refine g_iload_n dX9_isWord_39 rfl (by rfl) ?_
      refine g_if_eq (tgt := 82) dX9_isWord_40 (by decide) (fun c_40 => absurd c_40 (by decide)) (fun _ => ?_)
      refine g_iload_n dX9_isWord_43 rfl (by rfl) ?_
      refine g_aload_n dX9_isWord_44 rfl (by rfl) ?_
      refine g_callT (c_length hi) hi dX9_isWord_45 mJ0_length_8abf5 rfl rfl lX9_186 iJ0_length_8abf5 vJ0_length_8abf5 (by decide) rfl rfl (Nat.le_of_ble_eq_true rfl) ?_
      refine g_icmp_ge (tgt := 82) dX9_isWord_48 (by decide) (fun c_48 => absurd c_48 (nI_ge (by omega) (by omega))) (fun _ => ?_)
      refine g_aload_n dX9_isWord_51 rfl (by rfl) ?_
      refine g_getf dX9_isWord_52 fX9_27 (by exact hm) (by omega) (by rfl) ?_
      refine g_aload_n dX9_isWord_55 rfl (by rfl) ?_
      refine g_getf dX9_isWord_56 fX9_168 (by exact hm) (by omega) (by rfl) ?_
      rw [h18]
      refine g_iload_n dX9_isWord_59 rfl (by rfl) ?_
      refine g_iadd dX9_isWord_60 ?_
      rw [nI_add]
      refine g_iald dX9_isWord_61 (by exact hx) (by omega) (by rfl) (by omega) (by omega) ?_
      refine g_aload_n dX9_isWord_62 rfl (by rfl) ?_
      refine g_iload_n dX9_isWord_63 rfl (by rfl) ?_
      refine g_callT (c_charAt hi (j := j) (by omega)) hi dX9_isWord_64 mJ0_charAt_5068e rfl rfl lX9_191 iJ0_charAt_5068e vJ0_charAt_5068e (by decide) rfl rfl (Nat.le_of_ble_eq_true rfl) ?_
      refine g_icmp_ne (tgt := 74) dX9_isWord_67 (by decide) (fun c_67 => ?_) (fun c_67 => ?_)
      · have hE : x_mt tx S.2.2.2.2.2.1 i (r + 1) j = false := if_neg (fun z => c_67 ((hK.1.eq (i := S.2.2.2.2.2.1 + j) (c := k_b i j) (by omega) (k_b_in i hi j (by omega)).1 (k_b_in i hi j (by omega)).2).mpr z))
        rw [hE]
        refine g_iconst 0 dX9_isWord_74 (by rfl) ?_
        refine g_istore_n dX9_isWord_75 rfl (by decide) ?_
        refine g_iinc (nI (j + 1)) dX9_isWord_76 (by rfl) (nI_inc j) ?_
        refine g_goto (tgt := 39) dX9_isWord_79 (by decide) ?_
        first
        | exact g_lv (ih (j + 1) (by omega)) ⟨rfl, rfl, rfl, rfl, trivial⟩
        | exact g_lv (no (j + 1)) ⟨rfl, rfl, rfl, rfl, trivial⟩
      · have hE : x_mt tx S.2.2.2.2.2.1 i (r + 1) j = x_mt tx S.2.2.2.2.2.1 i r (j + 1) := if_pos ((hK.1.eq (i := S.2.2.2.2.2.1 + j) (c := k_b i j) (by omega) (k_b_in i hi j (by omega)).1 (k_b_in i hi j (by omega)).2).mp c_67)
        rw [hE]
        refine g_iconst 1 dX9_isWord_70 (by rfl) ?_
        refine g_goto (tgt := 75) dX9_isWord_71 (by decide) ?_
        refine g_istore_n dX9_isWord_75 rfl (by decide) ?_
        refine g_iinc (nI (j + 1)) dX9_isWord_76 (by rfl) (nI_inc j) ?_
        refine g_goto (tgt := 39) dX9_isWord_79 (by decide) ?_
        first
        | exact g_lv (ih (j + 1) (by omega)) ⟨rfl, rfl, rfl, rfl, trivial⟩
        | exact g_lv (no (j + 1)) ⟨rfl, rfl, rfl, rfl, trivial⟩
  refine s_Mt_of rfl (by decide) (by exact Nat.le_of_ble_eq_true rfl) ?_
  refine g_aload_n dX9_isWord_0 rfl (by rfl) ?_
  refine g_getf dX9_isWord_1 fX9_183 (by exact hm) (by omega) (by rfl) ?_
  rw [h21]
  refine g_if_ne (tgt := 35) dX9_isWord_4 (by decide) (fun c_4 => ?_) (fun c_4 => ?_)
  · have hv : (decide (S.2.1 = 0) && (x_is tx S.2.2.2.1 S.2.2.2.2.1 S.2.2.2.2.2.1 i)) = false := by rw [decide_eq_false c_4]; rfl
    refine g_iconst 0 dX9_isWord_35 (by rfl) ?_
    refine g_istore_n dX9_isWord_36 rfl (by decide) ?_
    refine g_iconst 0 dX9_isWord_37 (by rfl) ?_
    refine g_istore_n dX9_isWord_38 rfl (by decide) ?_
    rw [hv]
    first
    | exact g_lv (no 0) ⟨rfl, rfl, rfl, rfl, trivial⟩
    | exact g_lv (loop hq htq h18 hqt (s_len.getD i 0) 0 (by omega)) ⟨rfl, rfl, rfl, rfl, trivial⟩
  · have hg := c_4
    obtain ⟨h15, h16, hq, h17, htq, h18, h19, h20⟩ := htk hg
    refine g_aload_n dX9_isWord_7 rfl (by rfl) ?_
    refine g_getf dX9_isWord_8 fX9_171 (by exact hm) (by omega) (by rfl) ?_
    rw [h19]
    refine g_iconst 3 dX9_isWord_11 (by rfl) ?_
    refine g_icmp_ne (tgt := 35) dX9_isWord_12 (by decide) (fun c_12 => ?_) (fun c_12 => ?_)
    · have hv : (decide (S.2.1 = 0) && (x_is tx S.2.2.2.1 S.2.2.2.2.1 S.2.2.2.2.2.1 i)) = false := by rw [x_is_no1 (fun z => c_12 (m_kd_i.2.1.mpr z))]; exact Bool.and_false _
      refine g_iconst 0 dX9_isWord_35 (by rfl) ?_
      refine g_istore_n dX9_isWord_36 rfl (by decide) ?_
      refine g_iconst 0 dX9_isWord_37 (by rfl) ?_
      refine g_istore_n dX9_isWord_38 rfl (by decide) ?_
      rw [hv]
      first
      | exact g_lv (no 0) ⟨rfl, rfl, rfl, rfl, trivial⟩
      | exact g_lv (loop hq htq h18 hqt (s_len.getD i 0) 0 (by omega)) ⟨rfl, rfl, rfl, rfl, trivial⟩
    · refine g_aload_n dX9_isWord_15 rfl (by rfl) ?_
      refine g_getf dX9_isWord_16 fX9_165 (by exact hm) (by omega) (by rfl) ?_
      rw [h17]
      refine g_aload_n dX9_isWord_19 rfl (by rfl) ?_
      refine g_getf dX9_isWord_20 fX9_168 (by exact hm) (by omega) (by rfl) ?_
      rw [h18]
      refine g_isub dX9_isWord_23 ?_
      rw [show (nI S.2.2.2.1 - nI S.2.2.2.2.2.1 : Int32) = nI (S.2.2.2.1 - S.2.2.2.2.2.1) from nI_sble htq]
      refine g_aload_n dX9_isWord_24 rfl (by rfl) ?_
      refine g_callT (c_length hi) hi dX9_isWord_25 mJ0_length_8abf5 rfl rfl lX9_186 iJ0_length_8abf5 vJ0_length_8abf5 (by decide) rfl rfl (Nat.le_of_ble_eq_true rfl) ?_
      refine g_icmp_ne (tgt := 35) dX9_isWord_28 (by decide) (fun c_28 => ?_) (fun c_28 => ?_)
      · have hv : (decide (S.2.1 = 0) && (x_is tx S.2.2.2.1 S.2.2.2.2.1 S.2.2.2.2.2.1 i)) = false := by rw [x_is_no2 (fun z => c_28 (by rw [z]))]; exact Bool.and_false _
        refine g_iconst 0 dX9_isWord_35 (by rfl) ?_
        refine g_istore_n dX9_isWord_36 rfl (by decide) ?_
        refine g_iconst 0 dX9_isWord_37 (by rfl) ?_
        refine g_istore_n dX9_isWord_38 rfl (by decide) ?_
        rw [hv]
        first
        | exact g_lv (no 0) ⟨rfl, rfl, rfl, rfl, trivial⟩
        | exact g_lv (loop hq htq h18 hqt (s_len.getD i 0) 0 (by omega)) ⟨rfl, rfl, rfl, rfl, trivial⟩
      · have hqt : S.2.2.2.1 - S.2.2.2.2.2.1 = s_len.getD i 0 := nI_inj (by omega) (by omega) c_28
        have hv : (decide (S.2.1 = 0) && (x_is tx S.2.2.2.1 S.2.2.2.2.1 S.2.2.2.2.2.1 i)) = x_mt tx S.2.2.2.2.2.1 i (s_len.getD i 0) 0 := by rw [decide_eq_true hg, x_is_mt (m_kd_i.2.1.mp c_12) hqt]; rfl
        refine g_iconst 1 dX9_isWord_31 (by rfl) ?_
        refine g_goto (tgt := 36) dX9_isWord_32 (by decide) ?_
        refine g_istore_n dX9_isWord_36 rfl (by decide) ?_
        refine g_iconst 0 dX9_isWord_37 (by rfl) ?_
        refine g_istore_n dX9_isWord_38 rfl (by decide) ?_
        rw [hv]
        first
        | exact g_lv (no 0) ⟨rfl, rfl, rfl, rfl, trivial⟩
        | exact g_lv (loop hq htq h18 hqt (s_len.getD i 0) 0 (by omega)) ⟨rfl, rfl, rfl, rfl, trivial⟩

/-- an error, unless there was one -/
def m_fl (S : x_S) (k : Int32) : x_S := if S.2.1 = 0 then x_fail S k else S
theorem m_fl_y {S : x_S} {k : Int32} (h : S.2.1 = 0) : m_fl S k = x_fail S k := if_pos h
theorem m_fl_n {S : x_S} {k : Int32} (h : ¬ S.2.1 = 0) : m_fl S k = S := if_neg h
/-- the next token, unless there was an error -/
def x_nx (tx : Nat → Int32) (len : Nat) (S : x_S) : x_S := if S.2.1 = 0 then x_next tx len S else S
theorem x_nx_y {tx : Nat → Int32} {len : Nat} {S : x_S} (h : S.2.1 = 0) : x_nx tx len S = x_next tx len S := if_pos h
theorem x_nx_n {tx : Nat → Int32} {len : Nat} {S : x_S} (h : ¬ S.2.1 = 0) : x_nx tx len S = S := if_neg h

theorem c_X9_fail {h : s_H} {n m len dp : Nat} {I0 sn tm rp tx : Nat → Int32} {P : Nat → Nat → Int32} {S : x_S} (hw : m_ss h m I0 sn P tm rp tx len dp S) (hK : m_kx I0 tm tx len) (hn : m + 21 ≤ n) {k : Int32} (hk : ¬ k = 0) : s_Mt TX9_fail 0 0 [.ref m, .int k] h n (s_rp n (fun v9 h1 => v9 = none ∧ m_ss h1 m I0 sn P tm rp tx len dp (m_fl S k) ∧ m_of h h1 m) s_no) := by
  obtain ⟨I, w, hP, hfr, h21, h22, hD, htk⟩ := id hw
  have hm := hP.1.1
  have hx := hP.2.2.2.2.2.1
  have hoff : m_of h h m := m_of.rf
  refine s_Mt_of rfl (by decide) (by exact Nat.le_of_ble_eq_true rfl) ?_
  refine g_aload_n dX9_fail_0 rfl (by rfl) ?_
  refine g_getf dX9_fail_1 fX9_183 (by exact hm) (by omega) (by rfl) ?_
  rw [h21]
  refine g_if_ne (tgt := 20) dX9_fail_4 (by decide) (fun c_4 => ?_) (fun c_4 => ?_)
  · have hg := c_4
    refine g_vreturn dX9_fail_20 rfl ?_
    exact ⟨rfl, rfl, by rw [m_fl_n hg]; exact hw, hoff⟩
  · obtain ⟨h15, h16, hq, h17, htq, h18, h19, h20⟩ := htk c_4
    refine g_aload_n dX9_fail_7 rfl (by rfl) ?_
    refine g_iload_n dX9_fail_8 rfl (by rfl) ?_
    refine g_putf' dX9_fail_9 pX9_183 (by exact hm) (by omega) (by exact Nat.le_of_ble_eq_true rfl) (by rfl) (by rfl) (fun h1 e1 => ?_)
    first | have hm_1 := s_up_off e1 (by omega) hm | have hm_1 := s_up_at e1
    first | have hx_1 := s_up_off e1 (by omega) hx | have hx_1 := s_up_at e1
    refine g_aload_n dX9_fail_12 rfl (by rfl) ?_
    refine g_aload_n dX9_fail_13 rfl (by rfl) ?_
    refine g_getf dX9_fail_14 fX9_168 (by exact hm_1) (by omega) (by rfl) ?_
    refine g_putf' dX9_fail_17 pX9_195 (by exact hm_1) (by omega) (by exact Nat.le_of_ble_eq_true rfl) (by rfl) (by rfl) (fun h2 e2 => ?_)
    first | have hm_2 := s_up_off e2 (by omega) hm_1 | have hm_2 := s_up_at e2
    first | have hx_2 := s_up_off e2 (by omega) hx_1 | have hx_2 := s_up_at e2
    refine g_vreturn dX9_fail_20 rfl ?_
    have qoff : s_off h h2 m (m + 1) := (s_off.rf.up e1 (by omega)).up e2 (by omega)
    refine ⟨rfl, rfl, ?_, m_of.rf.w qoff (by omega)⟩
    rw [m_fl_y c_4]
    refine ⟨upd (upd I 21 k) 22 (I 18), w, hP.fl qoff hm_2, fun j hj => by rw [upd_ne (by omega), upd_ne (by omega)]; exact hfr j hj, (upd_ne (by decide)).trans upd_at, upd_at.trans h18, hD, fun z => absurd z hk⟩

theorem c_X9_good {h : s_H} {n m len dp : Nat} {I0 sn tm rp tx : Nat → Int32} {P : Nat → Nat → Int32} {S : x_S} (hw : m_ss h m I0 sn P tm rp tx len dp S) (hK : m_kx I0 tm tx len) (hn : m + 21 ≤ n) : s_Mt TX9_good 0 0 [.ref m] h n (s_re (some (.int (if S.2.1 = 0 then 1 else 0))) h n) := by
  obtain ⟨I, w, hP, hfr, h21, h22, hD, htk⟩ := id hw
  have hm := hP.1.1
  have hx := hP.2.2.2.2.2.1
  have hoff : m_of h h m := m_of.rf
  refine s_Mt_of rfl (by decide) (by exact Nat.le_of_ble_eq_true rfl) ?_
  refine g_aload_n dX9_good_0 rfl (by rfl) ?_
  refine g_getf dX9_good_1 fX9_183 (by exact hm) (by omega) (by rfl) ?_
  rw [h21]
  refine g_if_ne (tgt := 11) dX9_good_4 (by decide) (fun c_4 => ?_) (fun c_4 => ?_)
  · refine g_iconst 0 dX9_good_11 (by rfl) ?_
    refine g_zreturn dX9_good_12 rfl (by decide) ?_
    first | (rw [if_pos c_4]; exact ⟨rfl, rfl, rfl⟩) | (rw [if_neg c_4]; exact ⟨rfl, rfl, rfl⟩)
  · refine g_iconst 1 dX9_good_7 (by rfl) ?_
    refine g_goto (tgt := 12) dX9_good_8 (by decide) ?_
    refine g_zreturn dX9_good_12 rfl (by decide) ?_
    first | (rw [if_pos c_4]; exact ⟨rfl, rfl, rfl⟩) | (rw [if_neg c_4]; exact ⟨rfl, rfl, rfl⟩)

theorem c_scan {h : s_H} {n m len dp : Nat} {I0 sn tm rp tx : Nat → Int32} {P : Nat → Nat → Int32} {S : x_S} (hw : m_s0 h m I0 sn P tm rp len dp S) (hK : m_kx I0 tm tx len) (hn : m + 21 ≤ n) : s_Mt TX9_scan 0 0 [.ref m] h n (s_rp n (fun v9 h1 => v9 = none ∧ m_ss h1 m I0 sn P tm rp tx len dp (x_next tx len S) ∧ m_of h h1 m) s_no) := by
  obtain ⟨I, w, hP, hfr, h21, h22, hD, h15, h16, hq, h17⟩ := hw
  refine s_Mt_mono (c_X9_scan (n := n) (I0 := I) (k0 := I 19) (f0 := I 20) ⟨I, hP.1.1, fun _ _ => rfl, h17, (nI_any (I 18)).symm, rfl, rfl⟩ hn hP.2.2.2.2.2.1 ((hfr 9 (by omega)).trans hK.2.1) hK.2.2 hK.1 hq) (fun o h1 n1 q => ⟨q.1, ?_⟩)
  rcases o with r | E
  · obtain ⟨-, q1, ⟨f, ⟨J, hJ, hJo, j17, j18, j19, j20⟩, hf⟩, q3⟩ := q
    have hb := x_tok_le (tx := tx) hq
    refine ⟨q1, ⟨J, w, hP.fl q3 hJ, fun k hk => (hJo k (by omega)).trans (hfr k hk), (hJo 21 (by omega)).trans h21, (hJo 22 (by omega)).trans h22, hD, fun _ => ⟨(hJo 15 (by omega)).trans h15, (hJo 16 (by omega)).trans h16, hb.2.1, j17, hb.1, j18, j19, fun z => j20.trans (hf z)⟩⟩, m_of.rf.w q3 (by omega)⟩
  · exact q.2
