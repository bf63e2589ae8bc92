/-! THE MODEL: runScript -/
theorem m_tx_of {tm tx : Nat → Int32} {len : Nat} (h : ∀ i, i < len → tm i = tx i &&& 255) (hb : ∀ i, i < len → -128 ≤ (tx i).toInt ∧ (tx i).toInt ≤ 127) : m_tx tm tx len := fun i hi => by
  have h1 := h i hi
  have h2 := hb i hi
  generalize tx i = x at *
  have e : (x &&& 255).toInt = ((x.toBitVec.toNat % 256 : Nat) : Int) := by
    show (x.toBitVec &&& 255#32).toInt = _
    rw [BitVec.toInt_eq_toNat_cond, BitVec.toNat_and]
    have : x.toBitVec.toNat &&& (255#32).toNat = x.toBitVec.toNat % 256 := Nat.and_two_pow_sub_one_eq_mod _ 8
    rw [this, if_pos (by omega)]
  have e2 : x.toInt = if 2 * x.toBitVec.toNat < 2 ^ 32 then (x.toBitVec.toNat : Int) else (x.toBitVec.toNat : Int) - ((2 ^ 32 : Nat) : Int) := BitVec.toInt_eq_toNat_cond _
  have hlt := x.toBitVec.isLt
  generalize x.toBitVec.toNat = k at *
  have e0 : (0 : Int32).toInt = 0 := by decide
  have e7 : (127 : Int32).toInt = 127 := by decide
  by_cases c : 0 ≤ x
  · left
    refine ⟨?_, c⟩
    rw [h1]
    apply Int32.toInt_inj.mp
    rw [e]
    rw [Int32.le_iff_toInt_le, e0] at c
    split at e2 <;> omega
  · right
    have c := Int32.not_le.mp c
    refine ⟨c, ?_⟩
    rw [Int32.lt_iff_toInt_lt, h1, e, e7]
    rw [Int32.lt_iff_toInt_lt, e0] at c
    split at e2 <;> omega

theorem c_goodI {h : s_H} {n m : Nat} {I : Nat → Int32} (hm : h m = .inr (7, m_fs m I)) (hn : m + 21 ≤ n) : s_Mt TX9_good 0 0 [.ref m] h n (s_re (some (.int (if I 21 = 0 then 1 else 0))) h n) := by
  refine s_Mt_of rfl (by decide) (by exact Nat.le_of_ble_eq_true rfl) ?_
  refine g_aload_n dX9_good_0 rfl (by rfl) ?_
  refine g_getf dX9_good_1 fX9_183 (by exact hm) (by omega) (by rfl) ?_
  refine g_if_ne (tgt := 11) dX9_good_4 (by decide) (fun c_4 => ?_) (fun c_4 => ?_)
  · refine g_iconst 0 dX9_good_11 (by rfl) ?_
    refine g_zreturn dX9_good_12 rfl (by decide) ?_
    first | (rw [if_pos c_4]; exact ⟨rfl, rfl, rfl⟩) | (rw [if_neg c_4]; exact ⟨rfl, rfl, rfl⟩)
  · refine g_iconst 1 dX9_good_7 (by rfl) ?_
    refine g_goto (tgt := 12) dX9_good_8 (by decide) ?_
    refine g_zreturn dX9_good_12 rfl (by decide) ?_
    first | (rw [if_pos c_4]; exact ⟨rfl, rfl, rfl⟩) | (rw [if_neg c_4]; exact ⟨rfl, rfl, rfl⟩)

theorem c_mc2 {n m len : Nat} {I0 sn tm rp tx : Nat → Int32} {P : Nat → Nat → Int32} (hK : m_kx I0 tm tx len) (hn : m + 21 ≤ n) (h : s_H) (S : x_S) (hw : m_ss h m I0 sn P tm rp tx len 2 S) (hg : S.2.1 = 0) (hex : S.2.2.2.2.2.2 ≤ 100) : s_Mt (TX9_command 9) 0 0 [.ref m] h n (s_rp n (fun v9 h1 => v9 = none ∧ m_ss h1 m I0 sn P tm rp tx len 2 (x_stp tx len x_rp2 S).2 ∧ m_of h h1 m) s_no) :=
  c_command (kr := 8) (rpt := x_rp2) hK hn (fun h S hw hg hex => c_repeat2 hK hn (by decide) hw hg) (by decide) (by decide) hw hg hex

theorem c_mr1 {n m len : Nat} {I0 sn tm rp tx : Nat → Int32} {P : Nat → Nat → Int32} (hK : m_kx I0 tm tx len) (hn : m + 21 ≤ n) (h : s_H) (S : x_S) (hw : m_ss h m I0 sn P tm rp tx len 1 S) (hg : S.2.1 = 0) (hex : S.2.2.2.2.2.2 ≤ 100) : s_Mt (TX9_repeatCommand 10) 0 0 [.ref m] h n (s_rp n (fun v9 h1 => v9 = none ∧ m_ss h1 m I0 sn P tm rp tx len 1 (x_rp1 tx len S).2 ∧ m_of h h1 m) s_no) :=
  c_repeatL (dp := 1) (kc := 9) (rpt := x_rp2) hK hn (c_mc2 hK hn) x_rp2_wf x_rp2_ok (by decide) (by decide) (by decide) hw hg hex

theorem c_mc1 {n m len : Nat} {I0 sn tm rp tx : Nat → Int32} {P : Nat → Nat → Int32} (hK : m_kx I0 tm tx len) (hn : m + 21 ≤ n) (h : s_H) (S : x_S) (hw : m_ss h m I0 sn P tm rp tx len 1 S) (hg : S.2.1 = 0) (hex : S.2.2.2.2.2.2 ≤ 100) : s_Mt (TX9_command 11) 0 0 [.ref m] h n (s_rp n (fun v9 h1 => v9 = none ∧ m_ss h1 m I0 sn P tm rp tx len 1 (x_stp tx len (x_rp1 tx len) S).2 ∧ m_of h h1 m) s_no) :=
  c_command (kr := 10) (rpt := x_rp1 tx len) hK hn (c_mr1 hK hn) (by decide) (by decide) hw hg hex

theorem x_rp1_wf {tx : Nat → Int32} {len : Nat} (hl : len ≤ 500) : x_wf len (x_rp1 tx len) := x_rpF_wf (x_rcF_wf' x_rp2_wf hl)
theorem x_rp0_wf {tx : Nat → Int32} {len : Nat} (hl : len ≤ 500) : x_wf len (x_rp0 tx len) := x_rpF_wf (x_rcF_wf' (x_rp1_wf hl) hl)
theorem x_rp1_ok {tx : Nat → Int32} {len : Nat} : x_keeps (x_rp1 tx len) := x_rpF_ok x_rc2_ok
theorem x_rp0_ok {tx : Nat → Int32} {len : Nat} : x_keeps (x_rp0 tx len) := x_rpF_ok x_rc1_ok

theorem c_mr0 {n m len : Nat} {I0 sn tm rp tx : Nat → Int32} {P : Nat → Nat → Int32} (hK : m_kx I0 tm tx len) (hn : m + 21 ≤ n) (h : s_H) (S : x_S) (hw : m_ss h m I0 sn P tm rp tx len 0 S) (hg : S.2.1 = 0) (hex : S.2.2.2.2.2.2 ≤ 100) : s_Mt (TX9_repeatCommand 12) 0 0 [.ref m] h n (s_rp n (fun v9 h1 => v9 = none ∧ m_ss h1 m I0 sn P tm rp tx len 0 (x_rp0 tx len S).2 ∧ m_of h h1 m) s_no) :=
  c_repeatL (dp := 0) (kc := 11) (rpt := x_rp1 tx len) hK hn (c_mc1 hK hn) (x_rp1_wf hK.2.2) x_rp1_ok (by decide) (by decide) (by decide) hw hg hex

theorem c_mc0 {n m len : Nat} {I0 sn tm rp tx : Nat → Int32} {P : Nat → Nat → Int32} (hK : m_kx I0 tm tx len) (hn : m + 21 ≤ n) (h : s_H) (S : x_S) (hw : m_ss h m I0 sn P tm rp tx len 0 S) (hg : S.2.1 = 0) (hex : S.2.2.2.2.2.2 ≤ 100) : s_Mt (TX9_command 13) 0 0 [.ref m] h n (s_rp n (fun v9 h1 => v9 = none ∧ m_ss h1 m I0 sn P tm rp tx len 0 (x_stp tx len (x_rp0 tx len) S).2 ∧ m_of h h1 m) s_no) :=
  c_command (kr := 12) (rpt := x_rp0 tx len) hK hn (c_mr0 hK hn) (by decide) (by decide) hw hg hex

theorem m_r1_61 {f g : Nat → Int32} {π : s_Pl} (h : ∀ j, j < 61 → f j = g j) (r : m_r1 g π) : m_r1 f π := by
  obtain ⟨c, p, ok, he⟩ := r
  exact ⟨c, p, ok, (m_D_61 h ok.2.1).tr he⟩
theorem m_run113 {h h' : s_H} {n m : Nat} {π : s_Pl} {I I00 w9 w sn tm rp g : Nat → Int32} {P : Nat → Nat → Int32} {R : Bool × x_S} (hn : m + 21 ≤ n) (hP : m_pl h' m I w9 sn P tm rp) (hbf : h' (m + 14) = .inl (0, 61, .inl g)) (hgw : ∀ j, j < 61 → g j = w j) (hr1 : m_r1 w π) (hrr : m_rr I00 sn P tm rp π) (hI : ∀ k, k ≠ 0 → k < 15 ∨ 22 < k → I k = I00 k) (hI0 : I 0 = 0) (e21 : I 21 = R.2.2.1) (e22 : I 22 = R.2.2.2.1) (hRe : R.1 = true ↔ R.2.2.1 = 0) (hD : R.1 = true → ∃ c p, d_ok R.2.1 c p ∧ d_eq c (m_D w9) R.2.1) (hoff : s_off h h' m (m + 21)) {lv : s_V} (l0 : lv 0 = some (.ref m)) : s_G TX9_runScript (s_rp n (fun v9 h1 => v9 = some (.int (if R.1 = true then R.2.1.2 0 else -1)) ∧ m_R h1 m (pl_run π R) 0 ∧ s_off h h1 m (m + 21)) s_no) 113 lv [] h' n 0 0 := by
  refine g_lv (l := [(0, .ref m)]) ?_ ⟨l0, trivial⟩
  have hk : ∀ k, k ≠ 0 → k < 15 ∨ 22 < k → k ≠ 9 → k ≠ 23 → k ≠ 24 → (upd (upd (upd I 9 0) 23 R.2.2.1) 24 R.2.2.2.1) k = I00 k := fun k b1 b2 b3 b4 b5 => (upd_ne b5).trans ((upd_ne b4).trans ((upd_ne b3).trans (hI k b1 b2)))
  have a0 : (upd (upd (upd I 9 0) 23 R.2.2.1) 24 R.2.2.2.1) 0 = 0 := (upd_ne (by decide)).trans ((upd_ne (by decide)).trans ((upd_ne (by decide)).trans hI0))
  have h3 : (upd (upd (upd I 9 0) 23 R.2.2.1) 24 R.2.2.2.1) 3 = nI π.2.2.2.2.1 := (hk 3 (by decide) (by decide) (by decide) (by decide) (by decide)).trans hrr.2.1.2.1
  have a5 : (upd (upd (upd I 9 0) 23 R.2.2.1) 24 R.2.2.2.1) 5 = I00 5 := hk 5 (by decide) (by decide) (by decide) (by decide) (by decide)
  have a11 : (upd (upd (upd I 9 0) 23 R.2.2.1) 24 R.2.2.2.1) 11 = I00 11 := hk 11 (by decide) (by decide) (by decide) (by decide) (by decide)
  have a9 : (upd (upd (upd I 9 0) 23 R.2.2.1) 24 R.2.2.2.1) 9 = nI 0 := (upd_ne (by decide)).trans ((upd_ne (by decide)).trans upd_at)
  have a23 : (upd (upd (upd I 9 0) 23 R.2.2.1) 24 R.2.2.2.1) 23 = R.2.2.1 := (upd_ne (by decide)).trans upd_at
  have a24 : (upd (upd (upd I 9 0) 23 R.2.2.1) 24 R.2.2.2.1) 24 = R.2.2.2.1 := upd_at
  have hm := hP.1.1
  have hw := hP.1.2
  refine g_aload_n dX9_runScript_113 rfl (by rfl) ?_
  refine g_iconst 0 dX9_runScript_114 (by rfl) ?_
  refine g_putf' dX9_runScript_115 pX9_162 (by exact hm) (by omega) (by exact Nat.le_of_ble_eq_true rfl) (by rfl) (by rfl) (fun h31 e31 => ?_)
  first | have hm_31 := s_up_off e31 (by omega) hm | have hm_31 := s_up_at e31
  first | have hw_31 := s_up_off e31 (by omega) hw | have hw_31 := s_up_at e31
  first | have hbf_31 := s_up_off e31 (by omega) hbf | have hbf_31 := s_up_at e31
  have qoff : s_off _ h31 m (m + 1) := s_off.rf.up e31 (by omega)
  have hP := hP.fl (I1 := upd I 9 0) qoff (s_up_at e31)
  have hbf := s_up_off e31 (by omega) hbf
  have hoff := hoff.trans (qoff.wide (a' := m) (b' := m + 21) (by omega) (by omega))
  have hm := hP.1.1
  have hw := hP.1.2
  refine g_aload_n dX9_runScript_118 rfl (by rfl) ?_
  refine g_aload_n dX9_runScript_119 rfl (by rfl) ?_
  refine g_getf dX9_runScript_120 fX9_183 (by exact hm) (by omega) (by rfl) ?_
  rw [show (upd I 9 0) 21 = R.2.2.1 from (upd_ne (by decide)).trans e21]
  refine g_putf' dX9_runScript_123 pX9_233 (by exact hm) (by omega) (by exact Nat.le_of_ble_eq_true rfl) (by rfl) (by rfl) (fun h32 e32 => ?_)
  first | have hm_32 := s_up_off e32 (by omega) hm | have hm_32 := s_up_at e32
  first | have hw_32 := s_up_off e32 (by omega) hw | have hw_32 := s_up_at e32
  first | have hbf_32 := s_up_off e32 (by omega) hbf | have hbf_32 := s_up_at e32
  have qoff : s_off _ h32 m (m + 1) := s_off.rf.up e32 (by omega)
  have hP := hP.fl (I1 := upd (upd I 9 0) 23 R.2.2.1) qoff (s_up_at e32)
  have hbf := s_up_off e32 (by omega) hbf
  have hoff := hoff.trans (qoff.wide (a' := m) (b' := m + 21) (by omega) (by omega))
  have hm := hP.1.1
  have hw := hP.1.2
  refine g_aload_n dX9_runScript_126 rfl (by rfl) ?_
  refine g_aload_n dX9_runScript_127 rfl (by rfl) ?_
  refine g_getf dX9_runScript_128 fX9_195 (by exact hm) (by omega) (by rfl) ?_
  rw [show (upd (upd I 9 0) 23 R.2.2.1) 22 = R.2.2.2.1 from (upd_ne (by decide)).trans ((upd_ne (by decide)).trans e22)]
  refine g_putf' dX9_runScript_131 pX9_43 (by exact hm) (by omega) (by exact Nat.le_of_ble_eq_true rfl) (by rfl) (by rfl) (fun h33 e33 => ?_)
  first | have hm_33 := s_up_off e33 (by omega) hm | have hm_33 := s_up_at e33
  first | have hw_33 := s_up_off e33 (by omega) hw | have hw_33 := s_up_at e33
  first | have hbf_33 := s_up_off e33 (by omega) hbf | have hbf_33 := s_up_at e33
  have qoff : s_off _ h33 m (m + 1) := s_off.rf.up e33 (by omega)
  have hP := hP.fl (I1 := upd (upd (upd I 9 0) 23 R.2.2.1) 24 R.2.2.2.1) qoff (s_up_at e33)
  have hbf := s_up_off e33 (by omega) hbf
  have hoff := hoff.trans (qoff.wide (a' := m) (b' := m + 21) (by omega) (by omega))
  have hm := hP.1.1
  have hw := hP.1.2
  refine g_aload_n dX9_runScript_134 rfl (by rfl) ?_
  refine g_callV_e (c_goodI hm hn) dX9_runScript_135 (mX9_good) rfl lX9_198 iX9_good vX9_good (by decide) (by omega) (by exact hm) rfl rfl rfl rfl (Nat.le_of_ble_eq_true rfl) ?_
  rw [show (upd (upd (upd I 9 0) 23 R.2.2.1) 24 R.2.2.2.1) 21 = R.2.2.1 from (upd_ne (by decide)).trans ((upd_ne (by decide)).trans ((upd_ne (by decide)).trans e21))]
  refine g_if_ne (tgt := 154) dX9_runScript_138 (by decide) (fun c_138 => ?_) (fun c_138 => ?_)
  · have hg : R.2.2.1 = 0 := Classical.byContradiction fun z => c_138 (if_neg z)
    have hR := hRe.mpr hg
    refine g_aload_n dX9_runScript_154 rfl (by rfl) ?_
    refine g_aload_n dX9_runScript_155 rfl (by rfl) ?_
    refine g_getf dX9_runScript_156 fX9_21 (by exact hm) (by omega) (by rfl) ?_
    obtain ⟨pm, hQ⟩ := hP.2.1
    refine g_callV_p (c_X9_remember hm hQ hbf hn (by omega) (by omega) (show (upd (upd (upd I 9 0) 23 R.2.2.1) 24 R.2.2.2.1) 3 = nI π.2.2.2.2.1 from h3) hrr.2.1.1) dX9_runScript_159 (mX9_remember) rfl lX9_130 iX9_remember vX9_remember (by decide) (by omega) (by exact hm) rfl rfl rfl rfl (Nat.le_of_ble_eq_true rfl) (fun v9 h9 z9 => ?_)
    obtain ⟨rfl, hm1, ⟨pm1, P1, hQ1, hrb⟩, qoff⟩ := z9
    have hP := hP.rem qoff hm1 ⟨pm1, hQ1⟩
    have hM := hP.1
    have hoff := hoff.trans (qoff.one (x := m) (y := m + 21) (by omega) (by omega) (by omega) (by omega))
    have hm := hM.1
    have hw := hM.2
    refine g_aload_n dX9_runScript_162 rfl (by rfl) ?_
    refine g_getf dX9_runScript_163 fX9_9 (by exact hm) (by omega) (by rfl) ?_
    refine g_iconst 1 dX9_runScript_166 (by rfl) ?_
    refine g_iald dX9_runScript_167 (by first | exact hw | exact hbf) (by omega) (show (1 : Int32) = nI 1 from rfl) (by decide) (by omega) ?_
    refine g_ireturn dX9_runScript_168 rfl ?_
    rw [if_pos hR]
    obtain ⟨c, p, okB, heB⟩ := hD hR
    have r3 := m_r3_rem (I := I00) (x := 0) (m_r1_61 hgw hr1) hrr.2.1 hrb
    refine ⟨rfl, congrArg (fun x => some (Value.int x)) (heB.1 0 (by omega)), ?_, hoff⟩
    rw [show pl_run π R = (d_cpy R.2.1 π.1, (pl_rem (pl_scr π 0 R.2.2.1 R.2.2.2.1)).2) from if_pos hR]
    exact ⟨_, w9, sn, P1, tm, rp, hP, (upd_ne (by decide)).trans a0, ⟨c, p, (d_eq.cpy okB.2.1 _ _).sy.ok okB, heB.tr (d_eq.cpy okB.2.1 _ _).sy⟩, ⟨(upd_ne (by decide)).trans (a5.trans hrr.1.1), hrr.1.2⟩, ⟨r3.1, upd_at, r3.2.2⟩, ⟨Nat.zero_le _, (upd_ne (by decide)).trans a9, fun i hi => absurd hi (Nat.not_lt_zero i)⟩, ⟨(upd_ne (by decide)).trans a23, (upd_ne (by decide)).trans a24⟩, ⟨hrr.2.2.2.2.1, (upd_ne (by decide)).trans (a11.trans hrr.2.2.2.2.2.1), hrr.2.2.2.2.2.2⟩⟩
  · have hb : ¬ R.2.2.1 = 0 := fun z => by rw [if_pos z] at c_138; exact absurd c_138 (by decide)
    have hR : ¬ R.1 = true := fun z => hb (hRe.mp z)
    refine g_aload_n dX9_runScript_141 rfl (by rfl) ?_
    refine g_getf dX9_runScript_142 fX9_21 (by exact hm) (by omega) (by rfl) ?_
    refine g_aload_n dX9_runScript_145 rfl (by rfl) ?_
    refine g_getf dX9_runScript_146 fX9_9 (by exact hm) (by omega) (by rfl) ?_
    refine g_callS_p (c_X9_copy hbf hw (by omega) (by omega) (by omega)) dX9_runScript_149 (mX9_copy) rfl lX9_65 sX9_copy (by decide) rfl rfl (Nat.le_of_ble_eq_true rfl) (fun v9 h9 z9 => ?_)
    obtain ⟨rfl, ⟨g2, hg2, hgw2⟩, qoff⟩ := z9
    have hP := hP.wc qoff hg2
    have hoff := hoff.trans (qoff.wide (a' := m) (b' := m + 21) (by omega) (by omega))
    refine g_iconst (-1) dX9_runScript_152 (by rfl) ?_
    refine g_ireturn dX9_runScript_153 rfl ?_
    rw [if_neg hR]
    refine ⟨rfl, rfl, ?_, hoff⟩
    rw [show pl_run π R = pl_scr π 0 R.2.2.1 R.2.2.2.1 from if_neg hR]
    exact ⟨_, g2, sn, P, tm, rp, hP, a0, m_r1_61 (fun j hj => (hgw2 j hj).trans (hgw j hj)) hr1, ⟨a5.trans hrr.1.1, hrr.1.2⟩, ⟨hrr.2.1.1, h3, hrr.2.1.2.2⟩, ⟨Nat.zero_le _, a9, fun i hi => absurd hi (Nat.not_lt_zero i)⟩, ⟨a23, a24⟩, ⟨hrr.2.2.2.2.1, a11.trans hrr.2.2.2.2.2.1, hrr.2.2.2.2.2.2⟩⟩
