/-! THE MODEL: the script's signs and tokens -/
/-- the model's text beside the planner's -/
def m_tx (tm tx : Nat → Int32) (len : Nat) : Prop := ∀ i, i < len → (tm i = tx i ∧ 0 ≤ tx i) ∨ (tx i < 0 ∧ 127 < tm i)
theorem m_tx.eq {tm tx : Nat → Int32} {len i : Nat} (q : m_tx tm tx len) (hi : i < len) {c : Int32} (h0 : 0 ≤ c) (h1 : c ≤ 127) : tm i = c ↔ tx i = c := by
  rcases q i hi with ⟨a, b⟩ | ⟨a, b⟩
  · rw [a]
  · constructor
    · intro z
      rw [z] at b
      exact absurd h1 (Int32.not_le.mpr b)
    · intro z
      rw [z] at a
      exact absurd h0 (Int32.not_le.mpr a)
theorem m_tx.bt {tm tx : Nat → Int32} {len i : Nat} (q : m_tx tm tx len) (hi : i < len) {c d : Int32} (h0 : 0 ≤ c) (h1 : d ≤ 127) : (c ≤ tm i ∧ tm i ≤ d) ↔ (c ≤ tx i ∧ tx i ≤ d) := by
  rcases q i hi with ⟨a, b⟩ | ⟨a, b⟩
  · rw [a]
  · constructor
    · intro z
      exact absurd (Int32.le_trans z.2 h1) (Int32.not_le.mpr b)
    · intro z
      exact absurd (Int32.le_trans h0 z.1) (Int32.not_le.mpr a)
theorem x_kd1 {c : Int32} : x_kd c = 1 ↔ 97 ≤ c ∧ c ≤ 122 := by
  unfold x_kd
  constructor
  · intro z
    split at z
    · assumption
    · split at z
      · exact absurd z (by decide)
      · split at z
        · rename_i e
          rcases e with e | e | e <;> (rw [e] at z; exact absurd z (by decide))
        · exact absurd z (by decide)
  · intro z; rw [if_pos z]
theorem x_kd2 {c : Int32} : x_kd c = 2 ↔ 48 ≤ c ∧ c ≤ 57 := by
  unfold x_kd
  constructor
  · intro z
    split at z
    · exact absurd z (by decide)
    · split at z
      · assumption
      · split at z
        · rename_i e
          rcases e with e | e | e <;> (rw [e] at z; exact absurd z (by decide))
        · exact absurd z (by decide)
  · intro z
    rw [if_neg (fun y => by
      have h1 := y.1
      have h2 := z.2
      rw [Int32.le_iff_toInt_le] at h1 h2
      have e1 : (97 : Int32).toInt = 97 := by decide
      have e2 : (57 : Int32).toInt = 57 := by decide
      omega), if_pos z]
theorem x_nm_sn {tx : Nat → Int32} : ∀ (r p : Nat) (a : Int32), x_nm tx (r + 1) p a = x_nm tx r p a * 10 + tx (p + r) - 48
  | 0, p, a => rfl
  | r + 1, p, a => by
    have := x_nm_sn (tx := tx) r (p + 1) (a * 10 + tx p - 48)
    show x_nm tx (r + 1) (p + 1) (a * 10 + tx p - 48) = x_nm tx r (p + 1) (a * 10 + tx p - 48) * 10 + _ - 48
    rw [this, show p + 1 + r = p + (r + 1) by omega]
/-- a token's kind, in the model -/
def m_kd (k : Int32) : Int32 := if k = 0 then 0 else if k = 1 then 3 else if k = 2 then 2 else if k = 59 then 1 else if k = 40 then 5 else if k = 41 then 6 else 4
/-- the scanner's fields -/
def m_sm (h : s_H) (m : Nat) (I0 : Nat → Int32) (p t : Nat) (k f : Int32) : Prop := ∃ I, h m = .inr (7, m_fs m I) ∧ (∀ j, j < 17 ∨ 20 < j → I j = I0 j) ∧ I 17 = nI p ∧ I 18 = nI t ∧ I 19 = k ∧ I 20 = f

theorem c_X9_letterAt {h : s_H} {n m len : Nat} {I tm tx : Nat → Int32} (hm : h m = .inr (7, m_fs m I)) (hn : m + 21 ≤ n) (hx : h (m + 16) = .inl (0, 500, .inl tm)) (h9 : I 9 = nI len) (hl : len ≤ 500) (hT : m_tx tm tx len) {i : Nat} (hi : i ≤ len) : s_Mt TX9_letterAt 0 0 [.ref m, .int (nI i)] h n (s_re (some (.int (if i < len ∧ x_kd (tx i) = 1 then 1 else 0))) h n) := by
  refine s_Mt_of rfl (by decide) (by exact Nat.le_of_ble_eq_true rfl) ?_
  refine g_iload_n dX9_letterAt_0 rfl (by rfl) ?_
  refine g_aload_n dX9_letterAt_1 rfl (by rfl) ?_
  refine g_getf dX9_letterAt_2 fX9_162 (by exact hm) (by omega) (by rfl) ?_
  rw [h9]
  refine g_icmp_ge (tgt := 34) dX9_letterAt_5 (by decide) (fun c_5 => ?_) (fun c_5 => ?_)
  · have hz : ¬ i < len := fun z => absurd (show nI len ≤ nI i from c_5) (fun y => by have := (nI_lei (by omega) (by omega)).mp y; omega)
    refine g_iconst 0 dX9_letterAt_34 (by rfl) ?_
    refine g_zreturn dX9_letterAt_35 rfl (by decide) ?_
    first | (rw [if_neg (fun z => hz z.1)]; exact ⟨rfl, rfl, rfl⟩) | (rw [if_neg (fun z => hno z.2)]; exact ⟨rfl, rfl, rfl⟩) | (rw [if_pos ⟨hi9, hyes⟩]; exact ⟨rfl, rfl, rfl⟩)
  · have hi9 : i < len := Nat.lt_of_not_le fun z => c_5 (nI_le z (by omega))
    refine g_aload_n dX9_letterAt_8 rfl (by rfl) ?_
    refine g_getf dX9_letterAt_9 fX9_27 (by exact hm) (by omega) (by rfl) ?_
    refine g_iload_n dX9_letterAt_12 rfl (by rfl) ?_
    refine g_iald dX9_letterAt_13 (by exact hx) (by omega) (by rfl) (by omega) (by omega) ?_
    refine g_bipush 97 dX9_letterAt_14 (by rfl) ?_
    refine g_icmp_lt (tgt := 34) dX9_letterAt_16 (by decide) (fun c_16 => ?_) (fun c_16 => ?_)
    · have hno : ¬ x_kd (tx i) = 1 := fun z => by
        have := ((hT.bt hi9 (c := 97) (d := 122) (by decide) (by decide)).mpr (x_kd1.mp z)).1
        exact absurd this (Int32.not_le.mpr c_16)
      refine g_iconst 0 dX9_letterAt_34 (by rfl) ?_
      refine g_zreturn dX9_letterAt_35 rfl (by decide) ?_
      first | (rw [if_neg (fun z => hz z.1)]; exact ⟨rfl, rfl, rfl⟩) | (rw [if_neg (fun z => hno z.2)]; exact ⟨rfl, rfl, rfl⟩) | (rw [if_pos ⟨hi9, hyes⟩]; exact ⟨rfl, rfl, rfl⟩)
    · refine g_aload_n dX9_letterAt_19 rfl (by rfl) ?_
      refine g_getf dX9_letterAt_20 fX9_27 (by exact hm) (by omega) (by rfl) ?_
      refine g_iload_n dX9_letterAt_23 rfl (by rfl) ?_
      refine g_iald dX9_letterAt_24 (by exact hx) (by omega) (by rfl) (by omega) (by omega) ?_
      refine g_bipush 122 dX9_letterAt_25 (by rfl) ?_
      refine g_icmp_gt (tgt := 34) dX9_letterAt_27 (by decide) (fun c_27 => ?_) (fun c_27 => ?_)
      · have hno : ¬ x_kd (tx i) = 1 := fun z => by
          have := ((hT.bt hi9 (c := 97) (d := 122) (by decide) (by decide)).mpr (x_kd1.mp z)).2
          exact absurd this (Int32.not_le.mpr c_27)
        refine g_iconst 0 dX9_letterAt_34 (by rfl) ?_
        refine g_zreturn dX9_letterAt_35 rfl (by decide) ?_
        first | (rw [if_neg (fun z => hz z.1)]; exact ⟨rfl, rfl, rfl⟩) | (rw [if_neg (fun z => hno z.2)]; exact ⟨rfl, rfl, rfl⟩) | (rw [if_pos ⟨hi9, hyes⟩]; exact ⟨rfl, rfl, rfl⟩)
      · have hyes : x_kd (tx i) = 1 := x_kd1.mpr ((hT.bt hi9 (c := 97) (d := 122) (by decide) (by decide)).mp ⟨Int32.not_lt.mp c_16, Int32.not_lt.mp c_27⟩)
        refine g_iconst 1 dX9_letterAt_30 (by rfl) ?_
        refine g_goto (tgt := 35) dX9_letterAt_31 (by decide) ?_
        refine g_zreturn dX9_letterAt_35 rfl (by decide) ?_
        first | (rw [if_neg (fun z => hz z.1)]; exact ⟨rfl, rfl, rfl⟩) | (rw [if_neg (fun z => hno z.2)]; exact ⟨rfl, rfl, rfl⟩) | (rw [if_pos ⟨hi9, hyes⟩]; exact ⟨rfl, rfl, rfl⟩)

theorem c_X9_digitAt {h : s_H} {n m len : Nat} {I tm tx : Nat → Int32} (hm : h m = .inr (7, m_fs m I)) (hn : m + 21 ≤ n) (hx : h (m + 16) = .inl (0, 500, .inl tm)) (h9 : I 9 = nI len) (hl : len ≤ 500) (hT : m_tx tm tx len) {i : Nat} (hi : i ≤ len) : s_Mt TX9_digitAt 0 0 [.ref m, .int (nI i)] h n (s_re (some (.int (if i < len ∧ x_kd (tx i) = 2 then 1 else 0))) h n) := by
  refine s_Mt_of rfl (by decide) (by exact Nat.le_of_ble_eq_true rfl) ?_
  refine g_iload_n dX9_digitAt_0 rfl (by rfl) ?_
  refine g_aload_n dX9_digitAt_1 rfl (by rfl) ?_
  refine g_getf dX9_digitAt_2 fX9_162 (by exact hm) (by omega) (by rfl) ?_
  rw [h9]
  refine g_icmp_ge (tgt := 34) dX9_digitAt_5 (by decide) (fun c_5 => ?_) (fun c_5 => ?_)
  · have hz : ¬ i < len := fun z => absurd (show nI len ≤ nI i from c_5) (fun y => by have := (nI_lei (by omega) (by omega)).mp y; omega)
    refine g_iconst 0 dX9_digitAt_34 (by rfl) ?_
    refine g_zreturn dX9_digitAt_35 rfl (by decide) ?_
    first | (rw [if_neg (fun z => hz z.1)]; exact ⟨rfl, rfl, rfl⟩) | (rw [if_neg (fun z => hno z.2)]; exact ⟨rfl, rfl, rfl⟩) | (rw [if_pos ⟨hi9, hyes⟩]; exact ⟨rfl, rfl, rfl⟩)
  · have hi9 : i < len := Nat.lt_of_not_le fun z => c_5 (nI_le z (by omega))
    refine g_aload_n dX9_digitAt_8 rfl (by rfl) ?_
    refine g_getf dX9_digitAt_9 fX9_27 (by exact hm) (by omega) (by rfl) ?_
    refine g_iload_n dX9_digitAt_12 rfl (by rfl) ?_
    refine g_iald dX9_digitAt_13 (by exact hx) (by omega) (by rfl) (by omega) (by omega) ?_
    refine g_bipush 48 dX9_digitAt_14 (by rfl) ?_
    refine g_icmp_lt (tgt := 34) dX9_digitAt_16 (by decide) (fun c_16 => ?_) (fun c_16 => ?_)
    · have hno : ¬ x_kd (tx i) = 2 := fun z => by
        have := ((hT.bt hi9 (c := 48) (d := 57) (by decide) (by decide)).mpr (x_kd2.mp z)).1
        exact absurd this (Int32.not_le.mpr c_16)
      refine g_iconst 0 dX9_digitAt_34 (by rfl) ?_
      refine g_zreturn dX9_digitAt_35 rfl (by decide) ?_
      first | (rw [if_neg (fun z => hz z.1)]; exact ⟨rfl, rfl, rfl⟩) | (rw [if_neg (fun z => hno z.2)]; exact ⟨rfl, rfl, rfl⟩) | (rw [if_pos ⟨hi9, hyes⟩]; exact ⟨rfl, rfl, rfl⟩)
    · refine g_aload_n dX9_digitAt_19 rfl (by rfl) ?_
      refine g_getf dX9_digitAt_20 fX9_27 (by exact hm) (by omega) (by rfl) ?_
      refine g_iload_n dX9_digitAt_23 rfl (by rfl) ?_
      refine g_iald dX9_digitAt_24 (by exact hx) (by omega) (by rfl) (by omega) (by omega) ?_
      refine g_bipush 57 dX9_digitAt_25 (by rfl) ?_
      refine g_icmp_gt (tgt := 34) dX9_digitAt_27 (by decide) (fun c_27 => ?_) (fun c_27 => ?_)
      · have hno : ¬ x_kd (tx i) = 2 := fun z => by
          have := ((hT.bt hi9 (c := 48) (d := 57) (by decide) (by decide)).mpr (x_kd2.mp z)).2
          exact absurd this (Int32.not_le.mpr c_27)
        refine g_iconst 0 dX9_digitAt_34 (by rfl) ?_
        refine g_zreturn dX9_digitAt_35 rfl (by decide) ?_
        first | (rw [if_neg (fun z => hz z.1)]; exact ⟨rfl, rfl, rfl⟩) | (rw [if_neg (fun z => hno z.2)]; exact ⟨rfl, rfl, rfl⟩) | (rw [if_pos ⟨hi9, hyes⟩]; exact ⟨rfl, rfl, rfl⟩)
      · have hyes : x_kd (tx i) = 2 := x_kd2.mpr ((hT.bt hi9 (c := 48) (d := 57) (by decide) (by decide)).mp ⟨Int32.not_lt.mp c_16, Int32.not_lt.mp c_27⟩)
        refine g_iconst 1 dX9_digitAt_30 (by rfl) ?_
        refine g_goto (tgt := 35) dX9_digitAt_31 (by decide) ?_
        refine g_zreturn dX9_digitAt_35 rfl (by decide) ?_
        first | (rw [if_neg (fun z => hz z.1)]; exact ⟨rfl, rfl, rfl⟩) | (rw [if_neg (fun z => hno z.2)]; exact ⟨rfl, rfl, rfl⟩) | (rw [if_pos ⟨hi9, hyes⟩]; exact ⟨rfl, rfl, rfl⟩)

theorem m_tx.same {tm tx : Nat → Int32} {len i : Nat} (q : m_tx tm tx len) (h : x_kd (tx i) = 2) (hi : i < len) : tm i = tx i := by
  rcases q i hi with ⟨a, b⟩ | ⟨a, b⟩
  · exact a
  · have h1 := (x_kd2.mp h).1
    rw [Int32.le_iff_toInt_le] at h1
    rw [Int32.lt_iff_toInt_lt] at a
    have e1 : (48 : Int32).toInt = 48 := by decide
    have e2 : (0 : Int32).toInt = 0 := by decide
    omega
theorem x_kd_o {c : Int32} (h1 : ¬ x_kd c = 1) (h2 : ¬ x_kd c = 2) (h3 : ¬ (c = 40 ∨ c = 41 ∨ c = 59)) : x_kd c = 3 := by
  unfold x_kd
  rw [if_neg (fun z => h1 (x_kd1.mpr z)), if_neg (fun z => h2 (x_kd2.mpr z)), if_neg h3]

theorem c_X9_scan {h : s_H} {n m len q t0 : Nat} {I0 tm tx : Nat → Int32} {k0 f0 : Int32} (hs : m_sm h m I0 q t0 k0 f0) (hn : m + 21 ≤ n) (hx : h (m + 16) = .inl (0, 500, .inl tm)) (h09 : I0 9 = nI len) (hl : len ≤ 500) (hT : m_tx tm tx len) (hq : q ≤ len) : s_Mt TX9_scan 0 0 [.ref m] h n (s_rp n (fun v9 h1 => v9 = none ∧ (∃ f, m_sm h1 m I0 (x_tok tx len q).1 (x_tok tx len q).2.2 (m_kd (x_tok tx len q).2.1) f ∧ ((x_tok tx len q).2.1 = 2 → f = x_nm tx ((x_tok tx len q).1 - (x_tok tx len q).2.2) (x_tok tx len q).2.2 0)) ∧ s_off h h1 m (m + 1)) s_no) := by
  have fin2 : ∀ (K k : Int32) {e t : Nat} {k1 fg : Int32} {h' : s_H} {lv : s_V} , True → True → m_sm h' m I0 e t k1 fg → h' (m + 16) = .inl (0, 500, .inl tm) → x_tok tx len q = (e, k, t) → s_off h h' m (m + 1) → (k = 2 → fg = x_nm tx (e - t) t 0) → m_kd k = K → lv 0 = some (.ref m) → s_G TX9_scan (s_rp n (fun v9 h1 => v9 = none ∧ (∃ f, m_sm h1 m I0 (x_tok tx len q).1 (x_tok tx len q).2.2 (m_kd (x_tok tx len q).2.1) f ∧ ((x_tok tx len q).2.1 = 2 → f = x_nm tx ((x_tok tx len q).1 - (x_tok tx len q).2.2) (x_tok tx len q).2.2 0)) ∧ s_off h h1 m (m + 1)) s_no) 225 lv [.int K, .ref m] h' n 0 0 := by
    intro K k e t k1 fg h' lv _ _ hs hx hx9 hoff hfg hK hlv
    refine g_lv (l := [(0, .ref m)]) ?_ ⟨hlv, trivial⟩
    obtain ⟨J, hm, hfr, h17, h18, h19, h20⟩ := hs
    have h9 := (hfr 9 (by omega)).trans h09
    refine g_putf' dX9_scan_225 pX9_171 (by exact hm) (by omega) (by exact Nat.le_of_ble_eq_true rfl) (by rfl) (by rfl) (fun h1 e1 => ?_)
    first | have hm_1 := s_up_off e1 (by omega) hm | have hm_1 := s_up_at e1
    first | have hx_1 := s_up_off e1 (by omega) hx | have hx_1 := s_up_at e1
    have hx := s_up_off e1 (by omega) hx
    have hoff := hoff.up e1 (by omega)
    obtain ⟨J, hm, hfr, h17, h18, h19, h20⟩ : m_sm h1 m I0 e t K fg := ⟨upd _ 19 K, s_up_at e1, fun j hj => (upd_ne (by omega)).trans (hfr j hj), (upd_ne (by decide)).trans h17, (upd_ne (by decide)).trans h18, upd_at, (upd_ne (by decide)).trans h20⟩
    have h9 := (hfr 9 (by omega)).trans h09
    refine g_goto (tgt := 301) dX9_scan_228 (by decide) ?_
    refine g_vreturn dX9_scan_301 rfl ?_
    refine ⟨rfl, rfl, ⟨fg, ?_, fun z => ?_⟩, hoff⟩
    · rw [hx9]
      exact ⟨J, hm, hfr, h17, h18, h19.trans hK.symm, h20⟩
    · rw [hx9] at z ⊢
      exact hfg z
  have finM : ∀ (p : Nat) (K k : Int32) {k1 f : Int32} {h' : s_H} {lv : s_V}, p < len → m_sm h' m I0 p p k1 f → h' (m + 16) = .inl (0, 500, .inl tm) → x_tok tx len q = (p + 1, k, p) → s_off h h' m (m + 1) → ¬ k = 2 → m_kd k = K → lv 0 = some (.ref m) → s_G TX9_scan (s_rp n (fun v9 h1 => v9 = none ∧ (∃ f, m_sm h1 m I0 (x_tok tx len q).1 (x_tok tx len q).2.2 (m_kd (x_tok tx len q).2.1) f ∧ ((x_tok tx len q).2.1 = 2 → f = x_nm tx ((x_tok tx len q).1 - (x_tok tx len q).2.2) (x_tok tx len q).2.2 0)) ∧ s_off h h1 m (m + 1)) s_no) 288 lv [.int K, .ref m] h' n 0 0 := by
    intro p K k k1 f h' lv hp hs hx hx9 hoff hk2 hK hlv
    refine g_lv (l := [(0, .ref m)]) ?_ ⟨hlv, trivial⟩
    obtain ⟨J, hm, hfr, h17, h18, h19, h20⟩ := hs
    have h9 := (hfr 9 (by omega)).trans h09
    refine g_putf' dX9_scan_288 pX9_171 (by exact hm) (by omega) (by exact Nat.le_of_ble_eq_true rfl) (by rfl) (by rfl) (fun h1 e1 => ?_)
    first | have hm_1 := s_up_off e1 (by omega) hm | have hm_1 := s_up_at e1
    first | have hx_1 := s_up_off e1 (by omega) hx | have hx_1 := s_up_at e1
    have hx := s_up_off e1 (by omega) hx
    have hoff := hoff.up e1 (by omega)
    obtain ⟨J, hm, hfr, h17, h18, h19, h20⟩ : m_sm h1 m I0 p p K f := ⟨upd _ 19 K, s_up_at e1, fun j hj => (upd_ne (by omega)).trans (hfr j hj), (upd_ne (by decide)).trans h17, (upd_ne (by decide)).trans h18, upd_at, (upd_ne (by decide)).trans h20⟩
    have h9 := (hfr 9 (by omega)).trans h09
    refine g_aload_n dX9_scan_291 rfl (by rfl) ?_
    refine g_dup dX9_scan_292 (by rfl) ?_
    refine g_getf dX9_scan_293 fX9_165 (by exact hm) (by omega) (by rfl) ?_
    rw [h17]
    refine g_iconst 1 dX9_scan_296 (by rfl) ?_
    refine g_iadd dX9_scan_297 ?_
    rw [nI_1]
    refine g_putf' dX9_scan_298 pX9_165 (by exact hm) (by omega) (by exact Nat.le_of_ble_eq_true rfl) (by rfl) (by rfl) (fun h2 e2 => ?_)
    first | have hm_2 := s_up_off e2 (by omega) hm | have hm_2 := s_up_at e2
    first | have hx_2 := s_up_off e2 (by omega) hx | have hx_2 := s_up_at e2
    have hx := s_up_off e2 (by omega) hx
    have hoff := hoff.up e2 (by omega)
    obtain ⟨J, hm, hfr, h17, h18, h19, h20⟩ : m_sm h2 m I0 (p + 1) p K f := ⟨upd _ 17 (nI (p + 1)), s_up_at e2, fun j hj => (upd_ne (by omega)).trans (hfr j hj), upd_at, (upd_ne (by decide)).trans h18, (upd_ne (by decide)).trans h19, (upd_ne (by decide)).trans h20⟩
    have h9 := (hfr 9 (by omega)).trans h09
    refine g_vreturn dX9_scan_301 rfl ?_
    refine ⟨rfl, rfl, ⟨f, ?_, fun z => ?_⟩, hoff⟩
    · rw [hx9]
      exact ⟨J, hm, hfr, h17, h18, h19.trans hK.symm, h20⟩
    · rw [hx9] at z ⊢
      exact absurd z hk2
  have fin : ∀ (e t : Nat) (k fg : Int32) (h' : s_H), m_sm h' m I0 e t k fg → h' (m + 16) = .inl (0, 500, .inl tm) → t ≤ e → e ≤ len → x_tok tx len q = (e, (if (2 : Int32) = 2 ∧ 4 < e - t then 3 else (2 : Int32)), t) → (e - t ≤ 4 → fg = x_nm tx (e - t) t 0) → s_off h h' m (m + 1) → s_G TX9_scan (s_rp n (fun v9 h1 => v9 = none ∧ (∃ f, m_sm h1 m I0 (x_tok tx len q).1 (x_tok tx len q).2.2 (m_kd (x_tok tx len q).2.1) f ∧ ((x_tok tx len q).2.1 = 2 → f = x_nm tx ((x_tok tx len q).1 - (x_tok tx len q).2.2) (x_tok tx len q).2.2 0)) ∧ s_off h h1 m (m + 1)) s_no) 206 (s_lvs [(0, .ref m)]) [] h' n 0 0 := by
    intro e t k fg h' hs hx hte hel hx9 hfg hoff
    obtain ⟨J, hm, hfr, h17, h18, h19, h20⟩ := hs
    have h9 := (hfr 9 (by omega)).trans h09
    refine g_aload_n dX9_scan_206 rfl (by rfl) ?_
    refine g_aload_n dX9_scan_207 rfl (by rfl) ?_
    refine g_getf dX9_scan_208 fX9_165 (by exact hm) (by omega) (by rfl) ?_
    rw [h17]
    refine g_aload_n dX9_scan_211 rfl (by rfl) ?_
    refine g_getf dX9_scan_212 fX9_168 (by exact hm) (by omega) (by rfl) ?_
    rw [h18]
    refine g_isub dX9_scan_215 ?_
    rw [show (nI e - nI t : Int32) = nI (e - t) from nI_sble (by omega)]
    refine g_iconst 4 dX9_scan_216 (by rfl) ?_
    refine g_icmp_le (tgt := 224) dX9_scan_217 (by decide) (fun c_217 => ?_) (fun c_217 => ?_)
    · have hle : e - t ≤ 4 := (nI_lei (b := 4) (by omega) (by omega)).mp c_217
      rw [if_neg (fun z => absurd z.2 (by omega))] at hx9
      refine g_iconst 2 dX9_scan_224 (by rfl) ?_
      first
      | exact fin2 4 3 trivial trivial ⟨J, hm, hfr, h17, h18, h19, h20⟩ hx hx9 hoff (fun z => absurd z (show ¬ (3 : Int32) = 2 by decide)) rfl rfl
      | exact fin2 2 2 trivial trivial ⟨J, hm, hfr, h17, h18, h19, h20⟩ hx hx9 hoff (fun _ => hfg hle) rfl rfl
    · have hgt : 4 < e - t := Nat.lt_of_not_le fun z => c_217 (nI_le (b := 4) z (by omega))
      rw [if_pos ⟨rfl, hgt⟩] at hx9
      refine g_iconst 4 dX9_scan_220 (by rfl) ?_
      refine g_goto (tgt := 225) dX9_scan_221 (by decide) ?_
      first
      | exact fin2 4 3 trivial trivial ⟨J, hm, hfr, h17, h18, h19, h20⟩ hx hx9 hoff (fun z => absurd z (show ¬ (3 : Int32) = 2 by decide)) rfl rfl
      | exact fin2 2 2 trivial trivial ⟨J, hm, hfr, h17, h18, h19, h20⟩ hx hx9 hoff (fun _ => hfg hle) rfl rfl
  have loopL : ∀ (t r e : Nat) (k f : Int32) (h' : s_H), e + r = len → t ≤ e → m_sm h' m I0 e t k f → h' (m + 16) = .inl (0, 500, .inl tm) → x_tok tx len q = (x_rn tx 1 r e, 1, t) → s_off h h' m (m + 1) → s_G TX9_scan (s_rp n (fun v9 h1 => v9 = none ∧ (∃ f, m_sm h1 m I0 (x_tok tx len q).1 (x_tok tx len q).2.2 (m_kd (x_tok tx len q).2.1) f ∧ ((x_tok tx len q).2.1 = 2 → f = x_nm tx ((x_tok tx len q).1 - (x_tok tx len q).2.2) (x_tok tx len q).2.2 0)) ∧ s_off h h1 m (m + 1)) s_no) 90 (s_lvs [(0, .ref m)]) [] h' n 0 0 := by
    intro t r
    induction r with
    | zero =>
      intro e k f h' he hte hs hx hx9 hoff
      have hx9 : x_tok tx len q = (e, 1, t) := hx9
      obtain ⟨J, hm, hfr, h17, h18, h19, h20⟩ := hs
      have h9 := (hfr 9 (by omega)).trans h09
      refine g_aload_n dX9_scan_90 rfl (by rfl) ?_
      refine g_aload_n dX9_scan_91 rfl (by rfl) ?_
      refine g_getf dX9_scan_92 fX9_165 (by exact hm) (by omega) (by rfl) ?_
      rw [h17]
      refine g_callV_e (c_X9_letterAt hm hn hx h9 hl hT (i := e) (by omega)) dX9_scan_95 (mX9_letterAt) rfl lX9_174 iX9_letterAt vX9_letterAt (by decide) (by omega) (by exact hm) rfl rfl rfl rfl (Nat.le_of_ble_eq_true rfl) ?_
      refine g_if_eq (tgt := 114) dX9_scan_98 (by decide) (fun _ => ?_) (fun c_98 => absurd (if_neg (fun z => absurd z.1 (by omega))) c_98)
      refine g_aload_n dX9_scan_114 rfl (by rfl) ?_
      refine g_iconst 3 dX9_scan_115 (by rfl) ?_
      refine g_putf' dX9_scan_116 pX9_171 (by exact hm) (by omega) (by exact Nat.le_of_ble_eq_true rfl) (by rfl) (by rfl) (fun h1 e1 => ?_)
      first | have hm_1 := s_up_off e1 (by omega) hm | have hm_1 := s_up_at e1
      first | have hx_1 := s_up_off e1 (by omega) hx | have hx_1 := s_up_at e1
      have hx := s_up_off e1 (by omega) hx
      have hoff := hoff.up e1 (by omega)
      obtain ⟨J, hm, hfr, h17, h18, h19, h20⟩ : m_sm h1 m I0 e t 3 f := ⟨upd _ 19 3, s_up_at e1, fun j hj => (upd_ne (by omega)).trans (hfr j hj), (upd_ne (by decide)).trans h17, (upd_ne (by decide)).trans h18, upd_at, (upd_ne (by decide)).trans h20⟩
      have h9 := (hfr 9 (by omega)).trans h09
      refine g_goto (tgt := 301) dX9_scan_119 (by decide) ?_
      refine g_vreturn dX9_scan_301 rfl ?_
      refine ⟨rfl, rfl, ⟨f, ?_, fun z => ?_⟩, hoff⟩
      · rw [hx9]
        exact ⟨J, hm, hfr, h17, h18, h19, h20⟩
      · rw [hx9] at z
        exact absurd z (show ¬ (1 : Int32) = 2 by decide)
    | succ r ih =>
      intro e k f h' he hte hs hx hx9 hoff
      obtain ⟨J, hm, hfr, h17, h18, h19, h20⟩ := hs
      have h9 := (hfr 9 (by omega)).trans h09
      refine g_aload_n dX9_scan_90 rfl (by rfl) ?_
      refine g_aload_n dX9_scan_91 rfl (by rfl) ?_
      refine g_getf dX9_scan_92 fX9_165 (by exact hm) (by omega) (by rfl) ?_
      rw [h17]
      refine g_callV_e (c_X9_letterAt hm hn hx h9 hl hT (i := e) (by omega)) dX9_scan_95 (mX9_letterAt) rfl lX9_174 iX9_letterAt vX9_letterAt (by decide) (by omega) (by exact hm) rfl rfl rfl rfl (Nat.le_of_ble_eq_true rfl) ?_
      refine g_if_eq (tgt := 114) dX9_scan_98 (by decide) (fun c_98 => ?_) (fun c_98 => ?_)
      · have hno : ¬ x_kd (tx e) = 1 := fun z => by rw [if_pos ⟨by omega, z⟩] at c_98; exact absurd c_98 (by decide)
        have hE : x_rn tx 1 (r + 1) e = e := if_neg hno
        rw [hE] at hx9
        refine g_aload_n dX9_scan_114 rfl (by rfl) ?_
        refine g_iconst 3 dX9_scan_115 (by rfl) ?_
        refine g_putf' dX9_scan_116 pX9_171 (by exact hm) (by omega) (by exact Nat.le_of_ble_eq_true rfl) (by rfl) (by rfl) (fun h1 e1 => ?_)
        first | have hm_1 := s_up_off e1 (by omega) hm | have hm_1 := s_up_at e1
        first | have hx_1 := s_up_off e1 (by omega) hx | have hx_1 := s_up_at e1
        have hx := s_up_off e1 (by omega) hx
        have hoff := hoff.up e1 (by omega)
        obtain ⟨J, hm, hfr, h17, h18, h19, h20⟩ : m_sm h1 m I0 e t 3 f := ⟨upd _ 19 3, s_up_at e1, fun j hj => (upd_ne (by omega)).trans (hfr j hj), (upd_ne (by decide)).trans h17, (upd_ne (by decide)).trans h18, upd_at, (upd_ne (by decide)).trans h20⟩
        have h9 := (hfr 9 (by omega)).trans h09
        refine g_goto (tgt := 301) dX9_scan_119 (by decide) ?_
        refine g_vreturn dX9_scan_301 rfl ?_
        refine ⟨rfl, rfl, ⟨f, ?_, fun z => ?_⟩, hoff⟩
        · rw [hx9]
          exact ⟨J, hm, hfr, h17, h18, h19, h20⟩
        · rw [hx9] at z
          exact absurd z (show ¬ (1 : Int32) = 2 by decide)
      · have hyes : x_kd (tx e) = 1 := Classical.byContradiction fun z => c_98 (if_neg (fun y => z y.2))
        have hE : x_rn tx 1 (r + 1) e = x_rn tx 1 r (e + 1) := if_pos hyes
        rw [hE] at hx9
        refine g_aload_n dX9_scan_101 rfl (by rfl) ?_
        refine g_dup dX9_scan_102 (by rfl) ?_
        refine g_getf dX9_scan_103 fX9_165 (by exact hm) (by omega) (by rfl) ?_
        rw [h17]
        refine g_iconst 1 dX9_scan_106 (by rfl) ?_
        refine g_iadd dX9_scan_107 ?_
        rw [nI_1]
        refine g_putf' dX9_scan_108 pX9_165 (by exact hm) (by omega) (by exact Nat.le_of_ble_eq_true rfl) (by rfl) (by rfl) (fun h2 e2 => ?_)
        first | have hm_2 := s_up_off e2 (by omega) hm | have hm_2 := s_up_at e2
        first | have hx_2 := s_up_off e2 (by omega) hx | have hx_2 := s_up_at e2
        have hx := s_up_off e2 (by omega) hx
        have hoff := hoff.up e2 (by omega)
        obtain ⟨J, hm, hfr, h17, h18, h19, h20⟩ : m_sm h2 m I0 (e + 1) t k f := ⟨upd _ 17 (nI (e + 1)), s_up_at e2, fun j hj => (upd_ne (by omega)).trans (hfr j hj), upd_at, (upd_ne (by decide)).trans h18, (upd_ne (by decide)).trans h19, (upd_ne (by decide)).trans h20⟩
        have h9 := (hfr 9 (by omega)).trans h09
        refine g_goto (tgt := 90) dX9_scan_111 (by decide) ?_
        exact g_lv (ih (e + 1) _ _ _ (by omega) (by omega) ⟨J, hm, hfr, h17, h18, h19, h20⟩ hx hx9 hoff) ⟨rfl, trivial⟩
  have loopD : ∀ (t : Nat) (k : Int32) (r e : Nat) (fg : Int32) (h' : s_H), e + r = len → t ≤ e → m_sm h' m I0 e t k fg → h' (m + 16) = .inl (0, 500, .inl tm) → x_tok tx len q = ((x_rn tx 2 r e), (if (2 : Int32) = 2 ∧ 4 < (x_rn tx 2 r e) - t then 3 else (2 : Int32)), t) → (e - t ≤ 4 → fg = x_nm tx (e - t) t 0) → s_off h h' m (m + 1) → s_G TX9_scan (s_rp n (fun v9 h1 => v9 = none ∧ (∃ f, m_sm h1 m I0 (x_tok tx len q).1 (x_tok tx len q).2.2 (m_kd (x_tok tx len q).2.1) f ∧ ((x_tok tx len q).2.1 = 2 → f = x_nm tx ((x_tok tx len q).1 - (x_tok tx len q).2.2) (x_tok tx len q).2.2 0)) ∧ s_off h h1 m (m + 1)) s_no) 138 (s_lvs [(0, .ref m)]) [] h' n 0 0 := by
    intro t k r
    induction r with
    | zero =>
      intro e fg h' he hte hs hx hx9 hfg hoff
      have hx9 : x_tok tx len q = (e, (if (2 : Int32) = 2 ∧ 4 < e - t then 3 else (2 : Int32)), t) := hx9
      obtain ⟨J, hm, hfr, h17, h18, h19, h20⟩ := hs
      have h9 := (hfr 9 (by omega)).trans h09
      refine g_aload_n dX9_scan_138 rfl (by rfl) ?_
      refine g_aload_n dX9_scan_139 rfl (by rfl) ?_
      refine g_getf dX9_scan_140 fX9_165 (by exact hm) (by omega) (by rfl) ?_
      rw [h17]
      refine g_callV_e (c_X9_digitAt hm hn hx h9 hl hT (i := e) (by omega)) dX9_scan_143 (mX9_digitAt) rfl lX9_177 iX9_digitAt vX9_digitAt (by decide) (by omega) (by exact hm) rfl rfl rfl rfl (Nat.le_of_ble_eq_true rfl) ?_
      refine g_if_eq (tgt := 206) dX9_scan_146 (by decide) (fun _ => ?_) (fun c_146 => absurd (if_neg (fun z => absurd z.1 (by omega))) c_146)
      exact g_lv (fin e t k fg _ ⟨J, hm, hfr, h17, h18, h19, h20⟩ hx (by omega) (by omega) hx9 hfg hoff) ⟨rfl, trivial⟩
    | succ r ih =>
      intro e fg h' he hte hs hx hx9 hfg hoff
      obtain ⟨J, hm, hfr, h17, h18, h19, h20⟩ := hs
      have h9 := (hfr 9 (by omega)).trans h09
      refine g_aload_n dX9_scan_138 rfl (by rfl) ?_
      refine g_aload_n dX9_scan_139 rfl (by rfl) ?_
      refine g_getf dX9_scan_140 fX9_165 (by exact hm) (by omega) (by rfl) ?_
      rw [h17]
      refine g_callV_e (c_X9_digitAt hm hn hx h9 hl hT (i := e) (by omega)) dX9_scan_143 (mX9_digitAt) rfl lX9_177 iX9_digitAt vX9_digitAt (by decide) (by omega) (by exact hm) rfl rfl rfl rfl (Nat.le_of_ble_eq_true rfl) ?_
      refine g_if_eq (tgt := 206) dX9_scan_146 (by decide) (fun c_146 => ?_) (fun c_146 => ?_)
      · have hno : ¬ x_kd (tx e) = 2 := fun z => by rw [if_pos ⟨by omega, z⟩] at c_146; exact absurd c_146 (by decide)
        have hE : x_rn tx 2 (r + 1) e = e := if_neg hno
        rw [hE] at hx9
        exact g_lv (fin e t k fg _ ⟨J, hm, hfr, h17, h18, h19, h20⟩ hx (by omega) (by omega) hx9 hfg hoff) ⟨rfl, trivial⟩
      · have hyes : x_kd (tx e) = 2 := Classical.byContradiction fun z => c_146 (if_neg (fun y => z y.2))
        have hE : x_rn tx 2 (r + 1) e = x_rn tx 2 r (e + 1) := if_pos hyes
        rw [hE] at hx9
        refine g_aload_n dX9_scan_149 rfl (by rfl) ?_
        refine g_aload_n dX9_scan_150 rfl (by rfl) ?_
        refine g_getf dX9_scan_151 fX9_165 (by exact hm) (by omega) (by rfl) ?_
        rw [h17]
        refine g_aload_n dX9_scan_154 rfl (by rfl) ?_
        refine g_getf dX9_scan_155 fX9_168 (by exact hm) (by omega) (by rfl) ?_
        rw [h18]
        refine g_isub dX9_scan_158 ?_
        rw [show (nI e - nI t : Int32) = nI (e - t) from nI_sble (by omega)]
        refine g_iconst 4 dX9_scan_159 (by rfl) ?_
        refine g_icmp_ge (tgt := 186) dX9_scan_160 (by decide) (fun c_160 => ?_) (fun c_160 => ?_)
        · have hbig : ¬ e - t < 4 := fun z => absurd (nI_lt (b := 4) z (by omega)) (Int32.not_lt.mpr c_160)
          refine g_aload_n dX9_scan_186 rfl (by rfl) ?_
          refine g_getf dX9_scan_187 fX9_180 (by exact hm) (by omega) (by rfl) ?_
          rw [h20]
          refine g_putf' dX9_scan_190 pX9_180 (by exact hm) (by omega) (by exact Nat.le_of_ble_eq_true rfl) (by rfl) (by rfl) (fun h1 e1 => ?_)
          first | have hm_1 := s_up_off e1 (by omega) hm | have hm_1 := s_up_at e1
          first | have hx_1 := s_up_off e1 (by omega) hx | have hx_1 := s_up_at e1
          have hx := s_up_off e1 (by omega) hx
          have hoff := hoff.up e1 (by omega)
          obtain ⟨fg2, ⟨J, hm, hfr, h17, h18, h19, h20⟩, hfg⟩ : ∃ fg2, m_sm h1 m I0 e t k fg2 ∧ (e + 1 - t ≤ 4 → fg2 = x_nm tx (e + 1 - t) t 0) := by
            first
            | (refine ⟨fg, ⟨upd _ 20 fg, s_up_at e1, fun j hj => (upd_ne (by omega)).trans (hfr j hj), (upd_ne (by decide)).trans h17, (upd_ne (by decide)).trans h18, (upd_ne (by decide)).trans h19, upd_at⟩, fun z => ?_⟩; (exact absurd hbig (by omega)))
            | (refine ⟨10 * fg + tm e - 48, ⟨upd _ 20 (10 * fg + tm e - 48), s_up_at e1, fun j hj => (upd_ne (by omega)).trans (hfr j hj), (upd_ne (by decide)).trans h17, (upd_ne (by decide)).trans h18, (upd_ne (by decide)).trans h19, upd_at⟩, fun z => ?_⟩; (rw [show e + 1 - t = (e - t) + 1 by omega, x_nm_sn, ← hfg (by omega), show t + (e - t) = e by omega, Int32.mul_comm, hT.same hyes (by omega)]))
          have h9 := (hfr 9 (by omega)).trans h09
          refine g_aload_n dX9_scan_193 rfl (by rfl) ?_
          refine g_dup dX9_scan_194 (by rfl) ?_
          refine g_getf dX9_scan_195 fX9_165 (by exact hm) (by omega) (by rfl) ?_
          rw [h17]
          refine g_iconst 1 dX9_scan_198 (by rfl) ?_
          refine g_iadd dX9_scan_199 ?_
          rw [nI_1]
          refine g_putf' dX9_scan_200 pX9_165 (by exact hm) (by omega) (by exact Nat.le_of_ble_eq_true rfl) (by rfl) (by rfl) (fun h2 e2 => ?_)
          first | have hm_2 := s_up_off e2 (by omega) hm | have hm_2 := s_up_at e2
          first | have hx_2 := s_up_off e2 (by omega) hx | have hx_2 := s_up_at e2
          have hx := s_up_off e2 (by omega) hx
          have hoff := hoff.up e2 (by omega)
          obtain ⟨J, hm, hfr, h17, h18, h19, h20⟩ : m_sm h2 m I0 (e + 1) t k fg2 := ⟨upd _ 17 (nI (e + 1)), s_up_at e2, fun j hj => (upd_ne (by omega)).trans (hfr j hj), upd_at, (upd_ne (by decide)).trans h18, (upd_ne (by decide)).trans h19, (upd_ne (by decide)).trans h20⟩
          have h9 := (hfr 9 (by omega)).trans h09
          refine g_goto (tgt := 138) dX9_scan_203 (by decide) ?_
          exact g_lv (ih (e + 1) fg2 _ (by omega) (by omega) ⟨J, hm, hfr, h17, h18, h19, h20⟩ hx hx9 hfg hoff) ⟨rfl, trivial⟩
        · have hsm : e - t < 4 := (nI_lti (b := 4) (by omega) (by omega)).mp (Int32.not_le.mp c_160)
          refine g_bipush 10 dX9_scan_163 (by rfl) ?_
          refine g_aload_n dX9_scan_165 rfl (by rfl) ?_
          refine g_getf dX9_scan_166 fX9_180 (by exact hm) (by omega) (by rfl) ?_
          rw [h20]
          refine g_imul dX9_scan_169 ?_
          refine g_aload_n dX9_scan_170 rfl (by rfl) ?_
          refine g_getf dX9_scan_171 fX9_27 (by exact hm) (by omega) (by rfl) ?_
          refine g_aload_n dX9_scan_174 rfl (by rfl) ?_
          refine g_getf dX9_scan_175 fX9_165 (by exact hm) (by omega) (by rfl) ?_
          rw [h17]
          refine g_iald dX9_scan_178 (by exact hx) (by omega) (by rfl) (by omega) (by omega) ?_
          refine g_iadd dX9_scan_179 ?_
          refine g_bipush 48 dX9_scan_180 (by rfl) ?_
          refine g_isub dX9_scan_182 ?_
          refine g_goto (tgt := 190) dX9_scan_183 (by decide) ?_
          refine g_putf' dX9_scan_190 pX9_180 (by exact hm) (by omega) (by exact Nat.le_of_ble_eq_true rfl) (by rfl) (by rfl) (fun h3 e3 => ?_)
          first | have hm_3 := s_up_off e3 (by omega) hm | have hm_3 := s_up_at e3
          first | have hx_3 := s_up_off e3 (by omega) hx | have hx_3 := s_up_at e3
          have hx := s_up_off e3 (by omega) hx
          have hoff := hoff.up e3 (by omega)
          obtain ⟨fg2, ⟨J, hm, hfr, h17, h18, h19, h20⟩, hfg⟩ : ∃ fg2, m_sm h3 m I0 e t k fg2 ∧ (e + 1 - t ≤ 4 → fg2 = x_nm tx (e + 1 - t) t 0) := by
            first
            | (refine ⟨fg, ⟨upd _ 20 fg, s_up_at e3, fun j hj => (upd_ne (by omega)).trans (hfr j hj), (upd_ne (by decide)).trans h17, (upd_ne (by decide)).trans h18, (upd_ne (by decide)).trans h19, upd_at⟩, fun z => ?_⟩; (exact absurd hbig (by omega)))
            | (refine ⟨10 * fg + tm e - 48, ⟨upd _ 20 (10 * fg + tm e - 48), s_up_at e3, fun j hj => (upd_ne (by omega)).trans (hfr j hj), (upd_ne (by decide)).trans h17, (upd_ne (by decide)).trans h18, (upd_ne (by decide)).trans h19, upd_at⟩, fun z => ?_⟩; (rw [show e + 1 - t = (e - t) + 1 by omega, x_nm_sn, ← hfg (by omega), show t + (e - t) = e by omega, Int32.mul_comm, hT.same hyes (by omega)]))
          have h9 := (hfr 9 (by omega)).trans h09
          refine g_aload_n dX9_scan_193 rfl (by rfl) ?_
          refine g_dup dX9_scan_194 (by rfl) ?_
          refine g_getf dX9_scan_195 fX9_165 (by exact hm) (by omega) (by rfl) ?_
          rw [h17]
          refine g_iconst 1 dX9_scan_198 (by rfl) ?_
          refine g_iadd dX9_scan_199 ?_
          rw [nI_1]
          refine g_putf' dX9_scan_200 pX9_165 (by exact hm) (by omega) (by exact Nat.le_of_ble_eq_true rfl) (by rfl) (by rfl) (fun h4 e4 => ?_)
          first | have hm_4 := s_up_off e4 (by omega) hm | have hm_4 := s_up_at e4
          first | have hx_4 := s_up_off e4 (by omega) hx | have hx_4 := s_up_at e4
          have hx := s_up_off e4 (by omega) hx
          have hoff := hoff.up e4 (by omega)
          obtain ⟨J, hm, hfr, h17, h18, h19, h20⟩ : m_sm h4 m I0 (e + 1) t k fg2 := ⟨upd _ 17 (nI (e + 1)), s_up_at e4, fun j hj => (upd_ne (by omega)).trans (hfr j hj), upd_at, (upd_ne (by decide)).trans h18, (upd_ne (by decide)).trans h19, (upd_ne (by decide)).trans h20⟩
          have h9 := (hfr 9 (by omega)).trans h09
          refine g_goto (tgt := 138) dX9_scan_203 (by decide) ?_
          exact g_lv (ih (e + 1) fg2 _ (by omega) (by omega) ⟨J, hm, hfr, h17, h18, h19, h20⟩ hx hx9 hfg hoff) ⟨rfl, trivial⟩
  have loop1 : ∀ (r p t : Nat) (h' : s_H), p + r = len → m_sm h' m I0 p t k0 f0 → h' (m + 16) = .inl (0, 500, .inl tm) → x_sk tx r p = x_sk tx (len - q) q → s_off h h' m (m + 1) → s_G TX9_scan (s_rp n (fun v9 h1 => v9 = none ∧ (∃ f, m_sm h1 m I0 (x_tok tx len q).1 (x_tok tx len q).2.2 (m_kd (x_tok tx len q).2.1) f ∧ ((x_tok tx len q).2.1 = 2 → f = x_nm tx ((x_tok tx len q).1 - (x_tok tx len q).2.2) (x_tok tx len q).2.2 0)) ∧ s_off h h1 m (m + 1)) s_no) 0 (s_lvs [(0, .ref m)]) [] h' n 0 0 := by
    intro r
    induction r with
    | zero =>
      intro p t h' hp hs hx hTk hoff
      obtain ⟨J, hm, hfr, h17, h18, h19, h20⟩ := hs
      have h9 := (hfr 9 (by omega)).trans h09
      refine g_aload_n dX9_scan_0 rfl (by rfl) ?_
      refine g_getf dX9_scan_1 fX9_165 (by exact hm) (by omega) (by rfl) ?_
      rw [h17]
      refine g_aload_n dX9_scan_4 rfl (by rfl) ?_
      refine g_getf dX9_scan_5 fX9_162 (by exact hm) (by omega) (by rfl) ?_
      rw [h9]
      refine g_icmp_ge (tgt := 52) dX9_scan_8 (by decide) (fun _ => ?_) (fun c_8 => absurd (nI_le (by omega) (by omega)) c_8)
      refine g_aload_n dX9_scan_52 rfl (by rfl) ?_
      refine g_aload_n dX9_scan_53 rfl (by rfl) ?_
      refine g_getf dX9_scan_54 fX9_165 (by exact hm) (by omega) (by rfl) ?_
      rw [h17]
      refine g_putf' dX9_scan_57 pX9_168 (by exact hm) (by omega) (by exact Nat.le_of_ble_eq_true rfl) (by rfl) (by rfl) (fun h1 e1 => ?_)
      first | have hm_1 := s_up_off e1 (by omega) hm | have hm_1 := s_up_at e1
      first | have hx_1 := s_up_off e1 (by omega) hx | have hx_1 := s_up_at e1
      have hx := s_up_off e1 (by omega) hx
      have hoff := hoff.up e1 (by omega)
      obtain ⟨J, hm, hfr, h17, h18, h19, h20⟩ : m_sm h1 m I0 p p k0 f0 := ⟨upd _ 18 (nI p), s_up_at e1, fun j hj => (upd_ne (by omega)).trans (hfr j hj), (upd_ne (by decide)).trans h17, upd_at, (upd_ne (by decide)).trans h19, (upd_ne (by decide)).trans h20⟩
      have h9 := (hfr 9 (by omega)).trans h09
      refine g_aload_n dX9_scan_60 rfl (by rfl) ?_
      refine g_getf dX9_scan_61 fX9_165 (by exact hm) (by omega) (by rfl) ?_
      rw [h17]
      refine g_aload_n dX9_scan_64 rfl (by rfl) ?_
      refine g_getf dX9_scan_65 fX9_162 (by exact hm) (by omega) (by rfl) ?_
      rw [h9]
      refine g_icmp_ne (tgt := 79) dX9_scan_68 (by decide) (fun c_68 => absurd (show nI p = nI len by rw [show p = len by omega]) c_68) (fun _ => ?_)
      refine g_aload_n dX9_scan_71 rfl (by rfl) ?_
      refine g_iconst 0 dX9_scan_72 (by rfl) ?_
      refine g_putf' dX9_scan_73 pX9_171 (by exact hm) (by omega) (by exact Nat.le_of_ble_eq_true rfl) (by rfl) (by rfl) (fun h2 e2 => ?_)
      first | have hm_2 := s_up_off e2 (by omega) hm | have hm_2 := s_up_at e2
      first | have hx_2 := s_up_off e2 (by omega) hx | have hx_2 := s_up_at e2
      have hx := s_up_off e2 (by omega) hx
      have hoff := hoff.up e2 (by omega)
      obtain ⟨J, hm, hfr, h17, h18, h19, h20⟩ : m_sm h2 m I0 p p 0 f0 := ⟨upd _ 19 0, s_up_at e2, fun j hj => (upd_ne (by omega)).trans (hfr j hj), (upd_ne (by decide)).trans h17, (upd_ne (by decide)).trans h18, upd_at, (upd_ne (by decide)).trans h20⟩
      have h9 := (hfr 9 (by omega)).trans h09
      refine g_goto (tgt := 301) dX9_scan_76 (by decide) ?_
      refine g_vreturn dX9_scan_301 rfl ?_
      have hx9 : x_tok tx len q = (p, 0, p) := by
        unfold x_tok
        rw [← hTk]
        show x_at tx len p = _
        exact if_pos (by omega)
      refine ⟨rfl, rfl, ⟨f0, ?_, fun z => ?_⟩, hoff⟩
      · rw [hx9]
        exact ⟨J, hm, hfr, h17, h18, h19, h20⟩
      · rw [hx9] at z
        exact absurd z (show ¬ (0 : Int32) = 2 by decide)
    | succ r ih =>
      intro p t h' hp hs hx hTk hoff
      obtain ⟨J, hm, hfr, h17, h18, h19, h20⟩ := hs
      have h9 := (hfr 9 (by omega)).trans h09
      refine g_aload_n dX9_scan_0 rfl (by rfl) ?_
      refine g_getf dX9_scan_1 fX9_165 (by exact hm) (by omega) (by rfl) ?_
      rw [h17]
      refine g_aload_n dX9_scan_4 rfl (by rfl) ?_
      refine g_getf dX9_scan_5 fX9_162 (by exact hm) (by omega) (by rfl) ?_
      rw [h9]
      refine g_icmp_ge (tgt := 52) dX9_scan_8 (by decide) (fun c_8 => absurd c_8 (nI_ge (by omega) (by omega))) (fun _ => ?_)
      refine g_aload_n dX9_scan_11 rfl (by rfl) ?_
      refine g_getf dX9_scan_12 fX9_27 (by exact hm) (by omega) (by rfl) ?_
      refine g_aload_n dX9_scan_15 rfl (by rfl) ?_
      refine g_getf dX9_scan_16 fX9_165 (by exact hm) (by omega) (by rfl) ?_
      rw [h17]
      refine g_iald dX9_scan_19 (by exact hx) (by omega) (by rfl) (by omega) (by omega) ?_
      refine g_bipush 32 dX9_scan_20 (by rfl) ?_
      refine g_icmp_eq (tgt := 39) dX9_scan_22 (by decide) (fun c_22 => ?_) (fun c_22 => ?_)
      · have hE : x_sk tx (r + 1) p = x_sk tx r (p + 1) := if_pos (Or.inl ((hT.eq (by omega) (by decide) (by decide)).mp c_22))
        rw [hE] at hTk
        refine g_aload_n dX9_scan_39 rfl (by rfl) ?_
        refine g_dup dX9_scan_40 (by rfl) ?_
        refine g_getf dX9_scan_41 fX9_165 (by exact hm) (by omega) (by rfl) ?_
        rw [h17]
        refine g_iconst 1 dX9_scan_44 (by rfl) ?_
        refine g_iadd dX9_scan_45 ?_
        rw [nI_1]
        refine g_putf' dX9_scan_46 pX9_165 (by exact hm) (by omega) (by exact Nat.le_of_ble_eq_true rfl) (by rfl) (by rfl) (fun h1 e1 => ?_)
        first | have hm_1 := s_up_off e1 (by omega) hm | have hm_1 := s_up_at e1
        first | have hx_1 := s_up_off e1 (by omega) hx | have hx_1 := s_up_at e1
        have hx := s_up_off e1 (by omega) hx
        have hoff := hoff.up e1 (by omega)
        obtain ⟨J, hm, hfr, h17, h18, h19, h20⟩ : m_sm h1 m I0 (p + 1) t k0 f0 := ⟨upd _ 17 (nI (p + 1)), s_up_at e1, fun j hj => (upd_ne (by omega)).trans (hfr j hj), upd_at, (upd_ne (by decide)).trans h18, (upd_ne (by decide)).trans h19, (upd_ne (by decide)).trans h20⟩
        have h9 := (hfr 9 (by omega)).trans h09
        refine g_goto (tgt := 0) dX9_scan_49 (by decide) ?_
        exact g_lv (ih (p + 1) t _ (by omega) ⟨J, hm, hfr, h17, h18, h19, h20⟩ hx hTk hoff) ⟨rfl, trivial⟩
      · refine g_aload_n dX9_scan_25 rfl (by rfl) ?_
        refine g_getf dX9_scan_26 fX9_27 (by exact hm) (by omega) (by rfl) ?_
        refine g_aload_n dX9_scan_29 rfl (by rfl) ?_
        refine g_getf dX9_scan_30 fX9_165 (by exact hm) (by omega) (by rfl) ?_
        rw [h17]
        refine g_iald dX9_scan_33 (by exact hx) (by omega) (by rfl) (by omega) (by omega) ?_
        refine g_bipush 10 dX9_scan_34 (by rfl) ?_
        refine g_icmp_ne (tgt := 52) dX9_scan_36 (by decide) (fun c_36 => ?_) (fun c_36 => ?_)
        · have hE : x_sk tx (r + 1) p = p := if_neg (fun z => z.elim (fun z => c_22 ((hT.eq (by omega) (by decide) (by decide)).mpr z)) (fun z => c_36 ((hT.eq (by omega) (by decide) (by decide)).mpr z)))
          have hT9 : x_tok tx len q = x_at tx len p := by unfold x_tok; rw [← hTk, hE]
          refine g_aload_n dX9_scan_52 rfl (by rfl) ?_
          refine g_aload_n dX9_scan_53 rfl (by rfl) ?_
          refine g_getf dX9_scan_54 fX9_165 (by exact hm) (by omega) (by rfl) ?_
          rw [h17]
          refine g_putf' dX9_scan_57 pX9_168 (by exact hm) (by omega) (by exact Nat.le_of_ble_eq_true rfl) (by rfl) (by rfl) (fun h2 e2 => ?_)
          first | have hm_2 := s_up_off e2 (by omega) hm | have hm_2 := s_up_at e2
          first | have hx_2 := s_up_off e2 (by omega) hx | have hx_2 := s_up_at e2
          have hx := s_up_off e2 (by omega) hx
          have hoff := hoff.up e2 (by omega)
          obtain ⟨J, hm, hfr, h17, h18, h19, h20⟩ : m_sm h2 m I0 p p k0 f0 := ⟨upd _ 18 (nI p), s_up_at e2, fun j hj => (upd_ne (by omega)).trans (hfr j hj), (upd_ne (by decide)).trans h17, upd_at, (upd_ne (by decide)).trans h19, (upd_ne (by decide)).trans h20⟩
          have h9 := (hfr 9 (by omega)).trans h09
          refine g_aload_n dX9_scan_60 rfl (by rfl) ?_
          refine g_getf dX9_scan_61 fX9_165 (by exact hm) (by omega) (by rfl) ?_
          rw [h17]
          refine g_aload_n dX9_scan_64 rfl (by rfl) ?_
          refine g_getf dX9_scan_65 fX9_162 (by exact hm) (by omega) (by rfl) ?_
          rw [h9]
          refine g_icmp_ne (tgt := 79) dX9_scan_68 (by decide) (fun _ => ?_) (fun c_68 => absurd c_68 (fun z => by have := nI_inj (by omega) (by omega) z; omega))
          refine g_aload_n dX9_scan_79 rfl (by rfl) ?_
          refine g_aload_n dX9_scan_80 rfl (by rfl) ?_
          refine g_getf dX9_scan_81 fX9_165 (by exact hm) (by omega) (by rfl) ?_
          rw [h17]
          refine g_callV_e (c_X9_letterAt hm hn hx h9 hl hT (i := p) (by omega)) dX9_scan_84 (mX9_letterAt) rfl lX9_174 iX9_letterAt vX9_letterAt (by decide) (by omega) (by exact hm) rfl rfl rfl rfl (Nat.le_of_ble_eq_true rfl) ?_
          refine g_if_eq (tgt := 122) dX9_scan_87 (by decide) (fun c_87 => ?_) (fun c_87 => ?_)
          · have hn1 : ¬ x_kd (tx p) = 1 := fun z => by rw [if_pos ⟨by omega, z⟩] at c_87; exact absurd c_87 (by decide)
            refine g_aload_n dX9_scan_122 rfl (by rfl) ?_
            refine g_aload_n dX9_scan_123 rfl (by rfl) ?_
            refine g_getf dX9_scan_124 fX9_165 (by exact hm) (by omega) (by rfl) ?_
            rw [h17]
            refine g_callV_e (c_X9_digitAt hm hn hx h9 hl hT (i := p) (by omega)) dX9_scan_127 (mX9_digitAt) rfl lX9_177 iX9_digitAt vX9_digitAt (by decide) (by omega) (by exact hm) rfl rfl rfl rfl (Nat.le_of_ble_eq_true rfl) ?_
            refine g_if_eq (tgt := 231) dX9_scan_130 (by decide) (fun c_130 => ?_) (fun c_130 => ?_)
            · have hn2 : ¬ x_kd (tx p) = 2 := fun z => by rw [if_pos ⟨by omega, z⟩] at c_130; exact absurd c_130 (by decide)
              have hx9 : x_tok tx len q = (p + 1, x_kd (tx p), p) := by
                rw [hT9]
                unfold x_at
                rw [if_neg (show ¬ len ≤ p by omega), if_neg (fun z => z.elim hn1 hn2)]
              have hk9 := x_kd_o hn1 hn2
              refine g_aload_n dX9_scan_231 rfl (by rfl) ?_
              refine g_aload_n dX9_scan_232 rfl (by rfl) ?_
              refine g_getf dX9_scan_233 fX9_27 (by exact hm) (by omega) (by rfl) ?_
              refine g_aload_n dX9_scan_236 rfl (by rfl) ?_
              refine g_getf dX9_scan_237 fX9_165 (by exact hm) (by omega) (by rfl) ?_
              rw [h17]
              refine g_iald dX9_scan_240 (by exact hx) (by omega) (by rfl) (by omega) (by omega) ?_
              refine g_bipush 59 dX9_scan_241 (by rfl) ?_
              refine g_icmp_ne (tgt := 250) dX9_scan_243 (by decide) (fun c_243 => ?_) (fun c_243 => ?_)
              · have a1 : ¬ tx p = 59 := fun z => c_243 ((hT.eq (i := p) (c := 59) (by omega) (by decide) (by decide)).mpr z)
                refine g_aload_n dX9_scan_250 rfl (by rfl) ?_
                refine g_getf dX9_scan_251 fX9_27 (by exact hm) (by omega) (by rfl) ?_
                refine g_aload_n dX9_scan_254 rfl (by rfl) ?_
                refine g_getf dX9_scan_255 fX9_165 (by exact hm) (by omega) (by rfl) ?_
                rw [h17]
                refine g_iald dX9_scan_258 (by exact hx) (by omega) (by rfl) (by omega) (by omega) ?_
                refine g_bipush 40 dX9_scan_259 (by rfl) ?_
                refine g_icmp_ne (tgt := 268) dX9_scan_261 (by decide) (fun c_261 => ?_) (fun c_261 => ?_)
                · have a2 : ¬ tx p = 40 := fun z => c_261 ((hT.eq (i := p) (c := 40) (by omega) (by decide) (by decide)).mpr z)
                  refine g_aload_n dX9_scan_268 rfl (by rfl) ?_
                  refine g_getf dX9_scan_269 fX9_27 (by exact hm) (by omega) (by rfl) ?_
                  refine g_aload_n dX9_scan_272 rfl (by rfl) ?_
                  refine g_getf dX9_scan_273 fX9_165 (by exact hm) (by omega) (by rfl) ?_
                  rw [h17]
                  refine g_iald dX9_scan_276 (by exact hx) (by omega) (by rfl) (by omega) (by omega) ?_
                  refine g_bipush 41 dX9_scan_277 (by rfl) ?_
                  refine g_icmp_ne (tgt := 287) dX9_scan_279 (by decide) (fun c_279 => ?_) (fun c_279 => ?_)
                  · have a3 : ¬ tx p = 41 := fun z => c_279 ((hT.eq (i := p) (c := 41) (by omega) (by decide) (by decide)).mpr z)
                    rw [hk9 (fun z => z.elim a2 (fun z => z.elim a3 a1))] at hx9
                    refine g_iconst 4 dX9_scan_287 (by rfl) ?_
                    first
                    | exact finM p 1 59 (by omega) ⟨J, hm, hfr, h17, h18, h19, h20⟩ hx hx9 hoff (by decide) rfl rfl
                    | exact finM p 5 40 (by omega) ⟨J, hm, hfr, h17, h18, h19, h20⟩ hx hx9 hoff (by decide) rfl rfl
                    | exact finM p 6 41 (by omega) ⟨J, hm, hfr, h17, h18, h19, h20⟩ hx hx9 hoff (by decide) rfl rfl
                    | exact finM p 4 3 (by omega) ⟨J, hm, hfr, h17, h18, h19, h20⟩ hx hx9 hoff (by decide) rfl rfl
                  · rw [(hT.eq (i := p) (c := 41) (by omega) (by decide) (by decide)).mp c_279, show x_kd 41 = 41 by decide] at hx9
                    refine g_bipush 6 dX9_scan_282 (by rfl) ?_
                    refine g_goto (tgt := 288) dX9_scan_284 (by decide) ?_
                    first
                    | exact finM p 1 59 (by omega) ⟨J, hm, hfr, h17, h18, h19, h20⟩ hx hx9 hoff (by decide) rfl rfl
                    | exact finM p 5 40 (by omega) ⟨J, hm, hfr, h17, h18, h19, h20⟩ hx hx9 hoff (by decide) rfl rfl
                    | exact finM p 6 41 (by omega) ⟨J, hm, hfr, h17, h18, h19, h20⟩ hx hx9 hoff (by decide) rfl rfl
                    | exact finM p 4 3 (by omega) ⟨J, hm, hfr, h17, h18, h19, h20⟩ hx hx9 hoff (by decide) rfl rfl
                · rw [(hT.eq (i := p) (c := 40) (by omega) (by decide) (by decide)).mp c_261, show x_kd 40 = 40 by decide] at hx9
                  refine g_iconst 5 dX9_scan_264 (by rfl) ?_
                  refine g_goto (tgt := 288) dX9_scan_265 (by decide) ?_
                  first
                  | exact finM p 1 59 (by omega) ⟨J, hm, hfr, h17, h18, h19, h20⟩ hx hx9 hoff (by decide) rfl rfl
                  | exact finM p 5 40 (by omega) ⟨J, hm, hfr, h17, h18, h19, h20⟩ hx hx9 hoff (by decide) rfl rfl
                  | exact finM p 6 41 (by omega) ⟨J, hm, hfr, h17, h18, h19, h20⟩ hx hx9 hoff (by decide) rfl rfl
                  | exact finM p 4 3 (by omega) ⟨J, hm, hfr, h17, h18, h19, h20⟩ hx hx9 hoff (by decide) rfl rfl
              · rw [(hT.eq (i := p) (c := 59) (by omega) (by decide) (by decide)).mp c_243, show x_kd 59 = 59 by decide] at hx9
                refine g_iconst 1 dX9_scan_246 (by rfl) ?_
                refine g_goto (tgt := 288) dX9_scan_247 (by decide) ?_
                first
                | exact finM p 1 59 (by omega) ⟨J, hm, hfr, h17, h18, h19, h20⟩ hx hx9 hoff (by decide) rfl rfl
                | exact finM p 5 40 (by omega) ⟨J, hm, hfr, h17, h18, h19, h20⟩ hx hx9 hoff (by decide) rfl rfl
                | exact finM p 6 41 (by omega) ⟨J, hm, hfr, h17, h18, h19, h20⟩ hx hx9 hoff (by decide) rfl rfl
                | exact finM p 4 3 (by omega) ⟨J, hm, hfr, h17, h18, h19, h20⟩ hx hx9 hoff (by decide) rfl rfl
            · have hk2 : x_kd (tx p) = 2 := Classical.byContradiction fun z => c_130 (if_neg (fun y => z y.2))
              have hx9 : x_tok tx len q = (x_rn tx 2 (len - (p + 1) + 1) p, (if (2 : Int32) = 2 ∧ 4 < x_rn tx 2 (len - (p + 1) + 1) p - p then 3 else 2), p) := by
                rw [hT9]
                unfold x_at
                rw [if_neg (show ¬ len ≤ p by omega), if_pos (Or.inr hk2), hk2, show x_rn tx 2 (len - (p + 1) + 1) p = x_rn tx 2 (len - (p + 1)) (p + 1) from if_pos hk2]
              refine g_aload_n dX9_scan_133 rfl (by rfl) ?_
              refine g_iconst 0 dX9_scan_134 (by rfl) ?_
              refine g_putf' dX9_scan_135 pX9_180 (by exact hm) (by omega) (by exact Nat.le_of_ble_eq_true rfl) (by rfl) (by rfl) (fun h3 e3 => ?_)
              first | have hm_3 := s_up_off e3 (by omega) hm | have hm_3 := s_up_at e3
              first | have hx_3 := s_up_off e3 (by omega) hx | have hx_3 := s_up_at e3
              have hx := s_up_off e3 (by omega) hx
              have hoff := hoff.up e3 (by omega)
              obtain ⟨J, hm, hfr, h17, h18, h19, h20⟩ : m_sm h3 m I0 p p k0 0 := ⟨upd _ 20 0, s_up_at e3, fun j hj => (upd_ne (by omega)).trans (hfr j hj), (upd_ne (by decide)).trans h17, (upd_ne (by decide)).trans h18, (upd_ne (by decide)).trans h19, upd_at⟩
              have h9 := (hfr 9 (by omega)).trans h09
              exact g_lv (loopD p k0 (len - (p + 1) + 1) p 0 _ (by omega) (by omega) ⟨J, hm, hfr, h17, h18, h19, h20⟩ hx hx9 (fun _ => by rw [Nat.sub_self]; rfl) hoff) ⟨rfl, trivial⟩
          · have hk1 : x_kd (tx p) = 1 := Classical.byContradiction fun z => c_87 (if_neg (fun y => z y.2))
            have hx9 : x_tok tx len q = (x_rn tx 1 (len - (p + 1) + 1) p, 1, p) := by
              rw [hT9]
              unfold x_at
              rw [if_neg (show ¬ len ≤ p by omega), if_pos (Or.inl hk1), hk1, if_neg (fun z => absurd z.1 (by decide)), show x_rn tx 1 (len - (p + 1) + 1) p = x_rn tx 1 (len - (p + 1)) (p + 1) from if_pos hk1]
            exact g_lv (loopL p (len - (p + 1) + 1) p _ _ _ (by omega) (by omega) ⟨J, hm, hfr, h17, h18, h19, h20⟩ hx hx9 hoff) ⟨rfl, trivial⟩
        · have hE : x_sk tx (r + 1) p = x_sk tx r (p + 1) := if_pos (Or.inr ((hT.eq (by omega) (by decide) (by decide)).mp c_36))
          rw [hE] at hTk
          refine g_aload_n dX9_scan_39 rfl (by rfl) ?_
          refine g_dup dX9_scan_40 (by rfl) ?_
          refine g_getf dX9_scan_41 fX9_165 (by exact hm) (by omega) (by rfl) ?_
          rw [h17]
          refine g_iconst 1 dX9_scan_44 (by rfl) ?_
          refine g_iadd dX9_scan_45 ?_
          rw [nI_1]
          refine g_putf' dX9_scan_46 pX9_165 (by exact hm) (by omega) (by exact Nat.le_of_ble_eq_true rfl) (by rfl) (by rfl) (fun h4 e4 => ?_)
          first | have hm_4 := s_up_off e4 (by omega) hm | have hm_4 := s_up_at e4
          first | have hx_4 := s_up_off e4 (by omega) hx | have hx_4 := s_up_at e4
          have hx := s_up_off e4 (by omega) hx
          have hoff := hoff.up e4 (by omega)
          obtain ⟨J, hm, hfr, h17, h18, h19, h20⟩ : m_sm h4 m I0 (p + 1) t k0 f0 := ⟨upd _ 17 (nI (p + 1)), s_up_at e4, fun j hj => (upd_ne (by omega)).trans (hfr j hj), upd_at, (upd_ne (by decide)).trans h18, (upd_ne (by decide)).trans h19, (upd_ne (by decide)).trans h20⟩
          have h9 := (hfr 9 (by omega)).trans h09
          refine g_goto (tgt := 0) dX9_scan_49 (by decide) ?_
          exact g_lv (ih (p + 1) t _ (by omega) ⟨J, hm, hfr, h17, h18, h19, h20⟩ hx hTk hoff) ⟨rfl, trivial⟩
  refine s_Mt_of rfl (by decide) (by exact Nat.le_of_ble_eq_true rfl) ?_
  exact g_lv (loop1 (len - q) q t0 h (by omega) hs hx rfl s_off.rf) ⟨rfl, trivial⟩
