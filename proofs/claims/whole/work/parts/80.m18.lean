/-! THE MODEL: bytes come in -/
def m_us (x : Int32) (k : Nat) : Int32 := (x.toUInt32 >>> ((a_sh k).toUInt32 &&& Int32.toUInt32 31)).toInt32 &&& 255
/-- four bytes of an int, behind the text -/
def m_ty (tx : Nat → Int32) (len : Nat) (x : Int32) : Nat → (Nat → Int32)
  | 0 => tx
  | k + 1 => upd (m_ty tx len x k) (len + k) (m_us x k)
theorem m_lo8 (x : BitVec 32) : (BitVec.signExtend 32 (BitVec.signExtend 8 (BitVec.signExtend 32 (BitVec.signExtend 8 x)))) &&& 255#32 = x &&& 255#32 := by
  apply BitVec.eq_of_getLsbD_eq
  intro i hi
  have e255 : (255#32).getLsbD i = decide (i < 8) := by
    have : (255#32) = BitVec.ofNat 32 (2 ^ 8 - 1) := rfl
    rw [this, BitVec.getLsbD_ofNat, Nat.testBit_two_pow_sub_one]
    simp [hi]
  rw [BitVec.getLsbD_and, BitVec.getLsbD_and, e255]
  by_cases h8 : i < 8
  · simp only [BitVec.getLsbD_signExtend, h8, hi, if_true, decide_true, Bool.true_and, Bool.and_true]
  · simp [h8]
theorem m_sr8 (x : BitVec 32) (s : Nat) (hs : s ≤ 24) : x.sshiftRight s &&& 255#32 = x >>> s &&& 255#32 := by
  apply BitVec.eq_of_getLsbD_eq
  intro i hi
  have e255 : (255#32).getLsbD i = decide (i < 8) := by
    have : (255#32) = BitVec.ofNat 32 (2 ^ 8 - 1) := rfl
    rw [this, BitVec.getLsbD_ofNat, Nat.testBit_two_pow_sub_one]
    simp [hi]
  rw [BitVec.getLsbD_and, BitVec.getLsbD_and, e255]
  by_cases h8 : i < 8
  · rw [BitVec.getLsbD_sshiftRight, BitVec.getLsbD_ushiftRight]
    have h1 : ¬ 32 ≤ i := by omega
    have h2 : s + i < 32 := by omega
    simp [h1, h2]
  · simp [h8]
theorem m_byte (x : Int32) (k : Nat) (hk : k < 4) : m_us x k = p_by (x >>> (a_sh k &&& 31)) &&& 255 := by
  have key : ∀ (s : Nat) (a : Int32), s ≤ 24 → ((a &&& 31).toBitVec.smod 32).toNat = s → (a.toUInt32 &&& Int32.toUInt32 31).toNat % 32 = s → (x.toUInt32 >>> (a.toUInt32 &&& Int32.toUInt32 31)).toInt32 &&& 255 = p_by (x >>> (a &&& 31)) &&& 255 := fun s a hs h1 h2 => by
    apply Int32.toBitVec_inj.mp
    have e1 : ((x >>> (a &&& 31)).toInt8.toInt32.toInt8.toInt32 &&& 255).toBitVec = (x.toBitVec.sshiftRight s) &&& 255#32 := by
      have := m_lo8 (x >>> (a &&& 31)).toBitVec
      have h3 : (x >>> (a &&& 31)).toBitVec = x.toBitVec.sshiftRight s := by
        rw [Int32.toBitVec_shiftRight]
        show x.toBitVec.sshiftRight ((a &&& 31).toBitVec.smod 32).toNat = _
        rw [h1]
      rw [h3] at this
      rw [← this, ← h3]
      rfl
    have e2 : ((x.toUInt32 >>> (a.toUInt32 &&& Int32.toUInt32 31)).toInt32 &&& 255).toBitVec = (x.toBitVec >>> s) &&& 255#32 := by
      have h3 : (x.toUInt32 >>> (a.toUInt32 &&& Int32.toUInt32 31)).toBitVec = x.toBitVec >>> s := by
        rw [UInt32.toBitVec_shiftRight]
        show x.toBitVec >>> ((a.toUInt32 &&& Int32.toUInt32 31).toBitVec % 32#32) = _
        rw [BitVec.ushiftRight_eq']
        congr 1
      show (x.toUInt32 >>> (a.toUInt32 &&& Int32.toUInt32 31)).toBitVec &&& 255#32 = _
      rw [h3]
    show _ = ((x >>> (a &&& 31)).toInt8.toInt32.toInt8.toInt32 &&& 255).toBitVec
    rw [e1, e2, m_sr8 _ _ hs]
  unfold m_us
  match k, hk with
  | 0, _ => exact key 24 24 (by omega) (by decide) (by decide)
  | 1, _ => exact key 16 16 (by omega) (by decide) (by decide)
  | 2, _ => exact key 8 8 (by omega) (by decide) (by decide)
  | 3, _ => exact key 0 0 (by omega) (by decide) (by decide)
theorem m_ty_ok {tm tc : Nat → Int32} {len : Nat} {x : Int32} (h : ∀ i, i < len → tm i = tc i &&& 255) : ∀ k, k ≤ 4 → ∀ i, i < len + k → m_ty tm len x k i = a_by tc len x k i &&& 255
  | 0, _, i, hi => h i hi
  | k + 1, hk, i, hi => by
    show (if i = len + k then m_us x k else m_ty tm len x k i) = (if i = len + k then p_by (x >>> (a_sh k &&& 31)) else a_by tc len x k i) &&& 255
    by_cases e : i = len + k
    · rw [if_pos e, if_pos e, m_byte x k (by omega)]
    · rw [if_neg e, if_neg e]
      exact m_ty_ok h k (by omega) i (by omega)
theorem m_pl.tx {h h1 : s_H} {m : Nat} {I w sn tx rp g : Nat → Int32} {P : Nat → Nat → Int32} (q : m_pl h m I w sn P tx rp) (z : s_off h h1 (m + 16) (m + 17)) (e : h1 (m + 16) = .inl (0, 500, .inl g)) : m_pl h1 m I w sn P g rp := by
  obtain ⟨q1, ⟨pm, q2⟩, q3, ⟨f, q4⟩, ⟨f5, q5⟩, -, q7, q8⟩ := q
  exact ⟨q1.off z (by omega), ⟨pm, q2.kp (fun j a b => z j (by omega))⟩, (z _ (by omega)).trans q3, ⟨f, (z _ (by omega)).trans q4⟩, ⟨f5, (z _ (by omega)).trans q5⟩, e, (z _ (by omega)).trans q7, q8.off z (by omega)⟩
theorem m_pl.rp {h h1 : s_H} {m : Nat} {I w sn tx rp g : Nat → Int32} {P : Nat → Nat → Int32} (q : m_pl h m I w sn P tx rp) (z : s_off h h1 (m + 17) (m + 18)) (e : h1 (m + 17) = .inl (2, 1300, .inl g)) : m_pl h1 m I w sn P tx g := by
  obtain ⟨q1, ⟨pm, q2⟩, q3, ⟨f, q4⟩, ⟨f5, q5⟩, q6, -, q8⟩ := q
  exact ⟨q1.off z (by omega), ⟨pm, q2.kp (fun j a b => z j (by omega))⟩, (z _ (by omega)).trans q3, ⟨f, (z _ (by omega)).trans q4⟩, ⟨f5, (z _ (by omega)).trans q5⟩, (z _ (by omega)).trans q6, e, q8.off z (by omega)⟩

theorem c_X9_type {h : s_H} {n m len : Nat} {I w sn tx rp : Nat → Int32} {P : Nat → Nat → Int32} (hP : m_pl h m I w sn P tx rp) (hn : m + 21 ≤ n) (hI : I 9 = nI len) (hl : len + 4 ≤ 500) (x : Int32) : s_Mt TX9_type 0 0 [.ref m, .int x] h n (s_rp n (fun v9 h1 => v9 = none ∧ m_pl h1 m (upd I 9 (nI (len + 4))) w sn P (m_ty tx len x 4) rp ∧ s_off h h1 m (m + 21)) s_no) := by
  have loop : ∀ (r k : Nat) (h' : s_H), k + r = 4 → m_pl h' m (upd I 9 (nI (len + k))) w sn P (m_ty tx len x k) rp → s_off h h' m (m + 21) → s_G TX9_type (s_rp n (fun v9 h1 => v9 = none ∧ m_pl h1 m (upd I 9 (nI (len + 4))) w sn P (m_ty tx len x 4) rp ∧ s_off h h1 m (m + 21)) s_no) 3 (s_lvs [(0, .ref m), (1, .int x), (2, .int (a_sh k))]) [] h' n 0 0 := by
    intro r
    induction r with
    | zero =>
      intro k h' hk hP hoff
      obtain rfl : k = 4 := by omega
      refine g_iload_n dX9_type_3 rfl (by rfl) ?_
      refine g_if_lt (tgt := 39) dX9_type_4 (by decide) (fun _ => ?_) (fun c_4 => absurd (show a_sh 4 < 0 by decide) c_4)
      refine g_vreturn dX9_type_39 rfl ?_
      exact ⟨rfl, rfl, hP, hoff⟩
    | succ r ih =>
      intro k h' hk hP hoff
      have hm := hP.1.1
      have htx := hP.2.2.2.2.2.1
      refine g_iload_n dX9_type_3 rfl (by rfl) ?_
      refine g_if_lt (tgt := 39) dX9_type_4 (by decide) (fun c_4 => absurd c_4 (a_sh_p k (by omega))) (fun _ => ?_)
      refine g_aload_n dX9_type_7 rfl (by rfl) ?_
      refine g_getf dX9_type_8 fX9_27 (by exact hm) (by omega) (by rfl) ?_
      refine g_aload_n dX9_type_11 rfl (by rfl) ?_
      refine g_getf dX9_type_12 fX9_162 (by exact hm) (by omega) (by rfl) ?_
      rw [show upd I 9 (nI (len + k)) 9 = nI (len + k) from upd_at]
      refine g_iload_n dX9_type_15 rfl (by rfl) ?_
      refine g_iload_n dX9_type_16 rfl (by rfl) ?_
      refine g_iushr dX9_type_17 ?_
      refine g_sipush 255 dX9_type_18 (by rfl) ?_
      refine g_iand dX9_type_21 ?_
      refine g_iast' dX9_type_22 (by exact htx) (by omega) (by rfl) (by omega) (by omega) (fun h31 e31 => ?_)
      first | have hm_31 := s_up_off e31 (by omega) hm | have hm_31 := s_up_at e31
      first | have htx_31 := s_up_off e31 (by omega) htx | have htx_31 := s_up_at e31
      have qoff : s_off _ h31 (m + 16) (m + 17) := s_off.rf.up e31 (by omega)
      have hP := hP.tx qoff htx_31
      have hoff := hoff.trans (qoff.wide (a' := m) (b' := m + 21) (by omega) (by omega))
      have hm := hP.1.1
      have htx := hP.2.2.2.2.2.1
      refine g_aload_n dX9_type_23 rfl (by rfl) ?_
      refine g_dup dX9_type_24 (by rfl) ?_
      refine g_getf dX9_type_25 fX9_162 (by exact hm) (by omega) (by rfl) ?_
      rw [show upd I 9 (nI (len + k)) 9 = nI (len + k) from upd_at]
      refine g_iconst 1 dX9_type_28 (by rfl) ?_
      refine g_iadd dX9_type_29 ?_
      rw [nI_1]
      refine g_putf' dX9_type_30 pX9_162 (by exact hm) (by omega) (by exact Nat.le_of_ble_eq_true rfl) (by rfl) (by rfl) (fun h32 e32 => ?_)
      first | have hm_32 := s_up_off e32 (by omega) hm | have hm_32 := s_up_at e32
      first | have htx_32 := s_up_off e32 (by omega) htx | have htx_32 := s_up_at e32
      have qoff : s_off _ h32 m (m + 1) := s_off.rf.up e32 (by omega)
      have hP := hP.fl (I1 := upd (upd I 9 (nI (len + k))) 9 (nI (len + k + 1))) qoff hm_32
      rw [upd_upd] at hP
      have hoff := hoff.trans (qoff.wide (a' := m) (b' := m + 21) (by omega) (by omega))
      have hm := hP.1.1
      have htx := hP.2.2.2.2.2.1
      refine g_iinc (a_sh (k + 1)) dX9_type_33 (by rfl) (a_sh_s k (by omega)) ?_
      refine g_goto (tgt := 3) dX9_type_36 (by decide) ?_
      exact g_lv (ih (k + 1) _ (by omega) hP hoff) ⟨rfl, rfl, rfl, trivial⟩
  refine s_Mt_of rfl (by decide) (by exact Nat.le_of_ble_eq_true rfl) ?_
  refine g_bipush 24 dX9_type_0 (by rfl) ?_
  refine g_istore_n dX9_type_2 rfl (by decide) ?_
  exact g_lv (loop 4 0 h (by omega) (by rw [Nat.add_zero, ← hI, m_back0]; exact hP) s_off.rf) ⟨rfl, rfl, rfl, trivial⟩

theorem c_M_append {h : s_H} {n m : Nat} {π : s_Pl} {t : Int32} (hR : m_R h m π t) (hn : m + 21 ≤ n) (a c d e f : Int32) : s_Mt TX9_append 0 0 [.ref m, .int a, .int c, .int d, .int e, .int f] h n (s_rp n (fun v9 h1 => v9 = some (.int (if π.2.2.2.2.2.2.1 + 20 ≤ 500 then nI (π.2.2.2.2.2.2.1 + 20) else -2)) ∧ m_R h1 m (if π.2.2.2.2.2.2.1 + 20 ≤ 500 then (π.1, π.2.1, π.2.2.1, π.2.2.2.1, π.2.2.2.2.1, (a_by (a_by (a_by (a_by (a_by π.2.2.2.2.2.1 π.2.2.2.2.2.2.1 a 4) (π.2.2.2.2.2.2.1 + 4) c 4) (π.2.2.2.2.2.2.1 + 8) d 4) (π.2.2.2.2.2.2.1 + 12) e 4) (π.2.2.2.2.2.2.1 + 16) f 4), π.2.2.2.2.2.2.1 + 20, π.2.2.2.2.2.2.2) else π) 0 ∧ s_off h h1 m (m + 21)) s_no) := by
  obtain ⟨I, w, sn, P, tx, rp, hP, -, hr1, hrr⟩ := hR
  have hM := hP.1
  have hT := hP.2.2.2.2.2.2.2
  have hm := hM.1
  have hw := hM.2
  have hoff : s_off h h m (m + 21) := s_off.rf
  refine s_Mt_of rfl (by decide) (by exact Nat.le_of_ble_eq_true rfl) ?_
  refine g_aload_n dX9_append_0 rfl (by rfl) ?_
  refine g_iconst 0 dX9_append_1 (by rfl) ?_
  refine g_putf' dX9_append_2 pX9_59 (by exact hm) (by omega) (by exact Nat.le_of_ble_eq_true rfl) (by rfl) (by rfl) (fun h31 e31 => ?_)
  first | have hm_31 := s_up_off e31 (by omega) hm | have hm_31 := s_up_at e31
  first | have hw_31 := s_up_off e31 (by omega) hw | have hw_31 := s_up_at e31
  have hM := hM.th e31
  have qoff : s_off _ h31 m (m + 1) := s_off.rf.up e31 (by omega)
  have hT := hT.off qoff (by omega)
  have hP := hP.q (qoff.wide (a' := m) (b' := m + 2) (by omega) (by omega)).l2 hM hT
  have hoff := hoff.trans (qoff.wide (a' := m) (b' := m + 21) (by omega) (by omega))
  have hm := hM.1
  have hw := hM.2
  refine g_aload_n dX9_append_5 rfl (by rfl) ?_
  refine g_getf dX9_append_6 fX9_162 (by exact hm) (by omega) (by rfl) ?_
  rw [show upd I 0 0 9 = nI π.2.2.2.2.2.2.1 from hrr.2.2.1.2.1]
  refine g_bipush 20 dX9_append_9 (by rfl) ?_
  refine g_iadd dX9_append_11 ?_
  rw [show (20 : Int32) = nI 20 from rfl, nI_add]
  refine g_sipush 500 dX9_append_12 (by rfl) ?_
  refine g_icmp_le (tgt := 21) dX9_append_15 (by decide) (fun c_15 => ?_) (fun c_15 => ?_)
  · have hle : π.2.2.2.2.2.2.1 + 20 ≤ 500 := (nI_lei (b := 500) (by have := hrr.2.2.1.1; omega) (by omega)).mp c_15
    have hI9 : upd I 0 0 9 = nI (π.2.2.2.2.2.2.1 + 0) := hrr.2.2.1.2.1
    have htxr : ∀ i, i < π.2.2.2.2.2.2.1 + 0 → tx i = π.2.2.2.2.2.1 i &&& 255 := hrr.2.2.1.2.2
    refine g_aload_n dX9_append_21 rfl (by rfl) ?_
    refine g_iload_n dX9_append_22 rfl (by rfl) ?_
    refine g_callV_p (c_X9_type hP hn (len := π.2.2.2.2.2.2.1 + 0) hI9 (by omega) a) dX9_append_23 (mX9_type) rfl lX9_274 iX9_type vX9_type (by decide) (by omega) (by exact hm) rfl rfl rfl rfl (Nat.le_of_ble_eq_true rfl) (fun v9 h9 z9 => ?_)
    obtain ⟨rfl, hP, qoff⟩ := z9
    have hoff := hoff.trans qoff
    rw [show π.2.2.2.2.2.2.1 + 0 + 4 = π.2.2.2.2.2.2.1 + 4 by omega] at hP
    have hm := hP.1.1
    have htxr := m_ty_ok (len := π.2.2.2.2.2.2.1 + 0) (x := a) htxr 4 (by omega)
    rw [show π.2.2.2.2.2.2.1 + 0 + 4 = π.2.2.2.2.2.2.1 + 4 by omega] at htxr
    refine g_aload_n dX9_append_26 rfl (by rfl) ?_
    refine g_iload_n dX9_append_27 rfl (by rfl) ?_
    refine g_callV_p (c_X9_type hP hn (len := π.2.2.2.2.2.2.1 + 4) upd_at (by omega) c) dX9_append_28 (mX9_type) rfl lX9_274 iX9_type vX9_type (by decide) (by omega) (by exact hm) rfl rfl rfl rfl (Nat.le_of_ble_eq_true rfl) (fun v9 h9 z9 => ?_)
    obtain ⟨rfl, hP, qoff⟩ := z9
    have hoff := hoff.trans qoff
    rw [show π.2.2.2.2.2.2.1 + 4 + 4 = π.2.2.2.2.2.2.1 + 8 by omega] at hP
    have hm := hP.1.1
    have htxr := m_ty_ok (len := π.2.2.2.2.2.2.1 + 4) (x := c) htxr 4 (by omega)
    rw [show π.2.2.2.2.2.2.1 + 4 + 4 = π.2.2.2.2.2.2.1 + 8 by omega] at htxr
    refine g_aload_n dX9_append_31 rfl (by rfl) ?_
    refine g_iload_n dX9_append_32 rfl (by rfl) ?_
    refine g_callV_p (c_X9_type hP hn (len := π.2.2.2.2.2.2.1 + 8) upd_at (by omega) d) dX9_append_33 (mX9_type) rfl lX9_274 iX9_type vX9_type (by decide) (by omega) (by exact hm) rfl rfl rfl rfl (Nat.le_of_ble_eq_true rfl) (fun v9 h9 z9 => ?_)
    obtain ⟨rfl, hP, qoff⟩ := z9
    have hoff := hoff.trans qoff
    rw [show π.2.2.2.2.2.2.1 + 8 + 4 = π.2.2.2.2.2.2.1 + 12 by omega] at hP
    have hm := hP.1.1
    have htxr := m_ty_ok (len := π.2.2.2.2.2.2.1 + 8) (x := d) htxr 4 (by omega)
    rw [show π.2.2.2.2.2.2.1 + 8 + 4 = π.2.2.2.2.2.2.1 + 12 by omega] at htxr
    refine g_aload_n dX9_append_36 rfl (by rfl) ?_
    refine g_iload dX9_append_37 (by rfl) ?_
    refine g_callV_p (c_X9_type hP hn (len := π.2.2.2.2.2.2.1 + 12) upd_at (by omega) e) dX9_append_39 (mX9_type) rfl lX9_274 iX9_type vX9_type (by decide) (by omega) (by exact hm) rfl rfl rfl rfl (Nat.le_of_ble_eq_true rfl) (fun v9 h9 z9 => ?_)
    obtain ⟨rfl, hP, qoff⟩ := z9
    have hoff := hoff.trans qoff
    rw [show π.2.2.2.2.2.2.1 + 12 + 4 = π.2.2.2.2.2.2.1 + 16 by omega] at hP
    have hm := hP.1.1
    have htxr := m_ty_ok (len := π.2.2.2.2.2.2.1 + 12) (x := e) htxr 4 (by omega)
    rw [show π.2.2.2.2.2.2.1 + 12 + 4 = π.2.2.2.2.2.2.1 + 16 by omega] at htxr
    refine g_aload_n dX9_append_42 rfl (by rfl) ?_
    refine g_iload dX9_append_43 (by rfl) ?_
    refine g_callV_p (c_X9_type hP hn (len := π.2.2.2.2.2.2.1 + 16) upd_at (by omega) f) dX9_append_45 (mX9_type) rfl lX9_274 iX9_type vX9_type (by decide) (by omega) (by exact hm) rfl rfl rfl rfl (Nat.le_of_ble_eq_true rfl) (fun v9 h9 z9 => ?_)
    obtain ⟨rfl, hP, qoff⟩ := z9
    have hoff := hoff.trans qoff
    rw [show π.2.2.2.2.2.2.1 + 16 + 4 = π.2.2.2.2.2.2.1 + 20 by omega] at hP
    have hm := hP.1.1
    have htxr := m_ty_ok (len := π.2.2.2.2.2.2.1 + 16) (x := f) htxr 4 (by omega)
    rw [show π.2.2.2.2.2.2.1 + 16 + 4 = π.2.2.2.2.2.2.1 + 20 by omega] at htxr
    refine g_aload_n dX9_append_48 rfl (by rfl) ?_
    refine g_getf dX9_append_49 fX9_162 (by exact hm) (by omega) (by rfl) ?_
    rw [upd_at]
    refine g_ireturn dX9_append_52 rfl ?_
    (refine ⟨rfl, ?_, (by rw [if_pos hle]; exact ⟨_, _, _, _, _, _, hP, rfl, hr1, hrr.1, hrr.2.1, ⟨hle, upd_at, htxr⟩, hrr.2.2.2⟩), hoff⟩; (rw [if_pos hle]))
  · have hgt : ¬ π.2.2.2.2.2.2.1 + 20 ≤ 500 := fun z => c_15 ((nI_lei (b := 500) (by have := hrr.2.2.1.1; omega) (by omega)).mpr z)
    refine g_bipush (-2) dX9_append_18 (by rfl) ?_
    refine g_ireturn dX9_append_20 rfl ?_
    (refine ⟨rfl, ?_, (by rw [if_neg hgt]; exact ⟨_, _, _, _, _, _, hP, rfl, hr1, hrr⟩), hoff⟩; (rw [if_neg hgt]))
