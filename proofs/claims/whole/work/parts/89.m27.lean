/-! THE MODEL: a command, a repeat -/
theorem m_ss.dp {h : s_H} {m len dp dp2 : Nat} {I0 sn tm rp tx : Nat → Int32} {P : Nat → Nat → Int32} {S : x_S} (q : m_ss h m I0 sn P tm rp tx len dp S) (hb : ¬ S.2.1 = 0) : m_ss h m I0 sn P tm rp tx len dp2 S := by
  obtain ⟨I, w, a1, a2, a3, a4, a5, a6⟩ := q
  exact ⟨I, w, a1, a2, a3, a4, a5, fun z => absurd z hb⟩
/-- one of the script's own fields, in a state that failed -/
theorem m_ss.fd {h h1 : s_H} {m len dp2 : Nat} {I0 sn tm rp tx : Nat → Int32} {P : Nat → Nat → Int32} {S : x_S} {I w : Nat → Int32} (hP : m_pl h m I w sn P tm rp) (hfr : ∀ k, k < 15 ∨ 22 < k → I k = I0 k) (h21 : I 21 = S.2.1) (h22 : I 22 = S.2.2.1) (hD : ∃ cnt cp, d_ok S.1 cnt cp ∧ d_eq cnt (m_D w) S.1) (hb : ¬ S.2.1 = 0) {f : Nat} (hf : 15 ≤ f ∧ f < 21) {x : Int32} (z : s_off h h1 m (m + 1)) (e : h1 m = .inr (7, m_fs m (upd I f x))) : m_ss h1 m I0 sn P tm rp tx len dp2 S :=
  ⟨upd I f x, w, hP.fl z e, fun k hk => (upd_ne (by omega)).trans (hfr k hk), (upd_ne (by omega)).trans h21, (upd_ne (by omega)).trans h22, hD, fun z => absurd z hb⟩
theorem m_nu_f {tx : Nat → Int32} {lo hi : Int32} {S : x_S} (hb : ¬ S.2.1 = 0) : m_nu tx lo hi S = S := if_neg hb
theorem m_nv_f {tx : Nat → Int32} {lo hi : Int32} {S : x_S} (hb : ¬ S.2.1 = 0) : m_nv tx lo hi S = 0 := if_neg (by rw [m_nu_f hb]; exact hb)
theorem m_en_f {b : Bool} {S : x_S} (hb : ¬ S.2.1 = 0) : m_en b S = S := if_neg hb
theorem m_en_g {S : x_S} (hg : S.2.1 = 0) : m_en true S = (if S.2.2.2.2.1 = 59 then (true, S) else (false, x_fail S 1)).2 := by
  unfold m_en
  rw [if_pos hg]
  split
  · exact if_pos rfl
  · rfl

theorem c_command {n m len dp : Nat} {I0 sn tm rp tx : Nat → Int32} {P : Nat → Nat → Int32} (hK : m_kx I0 tm tx len) (hn : m + 21 ≤ n) {k kr : Nat} {rpt : x_S → Bool × x_S} (RP : ∀ (h : s_H) (S : x_S), m_ss h m I0 sn P tm rp tx len dp S → S.2.1 = 0 → S.2.2.2.2.2.2 ≤ 100 → s_Mt (TX9_repeatCommand kr) 0 0 [.ref m] h n (s_rp n (fun v9 h1 => v9 = none ∧ m_ss h1 m I0 sn P tm rp tx len dp (rpt S).2 ∧ m_of h h1 m) s_no)) (hkr : kr + 1 ≤ k) (hk9 : 9 ≤ k) {h : s_H} {S : x_S} (hw : m_ss h m I0 sn P tm rp tx len dp S) (hg : S.2.1 = 0) (hex : S.2.2.2.2.2.2 ≤ 100) : s_Mt (TX9_command k) 0 0 [.ref m] h n (s_rp n (fun v9 h1 => v9 = none ∧ m_ss h1 m I0 sn P tm rp tx len dp (x_stp tx len rpt S).2 ∧ m_of h h1 m) s_no) := by
  obtain ⟨I, w, hP, hfr, h21, h22, hD, htk⟩ := id hw
  have hm := hP.1.1
  have hx := hP.2.2.2.2.2.1
  have hoff : m_of h h m := m_of.rf
  obtain ⟨h15, h16, hq, h17, htq, h18, h19, h20⟩ := htk hg
  obtain ⟨W, hW12, hW⟩ := x_wd (tx := tx) (q := S.2.2.2.1) (t := S.2.2.2.2.2.1) (tk := S.2.2.2.2.1) (decide (S.2.1 = 0))
  have hW1 : ∀ i, i < 12 → x_is tx S.2.2.2.1 S.2.2.2.2.1 S.2.2.2.2.2.1 i = decide (i = W) := fun i hi => by
    have := hW i hi
    rw [decide_eq_true hg] at this
    exact this
  have hfc := x_fc_W hW1
  have tailF : ∀ (h' : s_H) (X : x_S), m_ss h' m I0 sn P tm rp tx len dp X → ¬ X.2.1 = 0 → (x_stp tx len rpt S).2 = X → m_of h h' m → s_G (TX9_command k) (s_rp n (fun v9 h1 => v9 = none ∧ m_ss h1 m I0 sn P tm rp tx len dp (x_stp tx len rpt S).2 ∧ m_of h h1 m) s_no) 44 (s_lvs [(0, .ref m)]) [] h' n 0 0 := by
    intro h' X hw hb hXe hoff
    obtain ⟨I, w, hP, hfr, h21, h22, hD, htk⟩ := id hw
    have hm := hP.1.1
    refine g_aload_n dX9_command_44 rfl (by rfl) ?_
    refine g_dup dX9_command_45 (by rfl) ?_
    refine g_getf dX9_command_46 fX9_217 (by exact hm) (by omega) (by rfl) ?_
    refine g_iconst 1 dX9_command_49 (by rfl) ?_
    refine g_iadd dX9_command_50 ?_
    refine g_putf' dX9_command_51 pX9_217 (by exact hm) (by omega) (by exact Nat.le_of_ble_eq_true rfl) (by rfl) (by rfl) (fun h1 e1 => ?_)
    first | have hm_1 := s_up_off e1 (by omega) hm | have hm_1 := s_up_at e1
    first | have hx_1 := s_up_off e1 (by omega) hx | have hx_1 := s_up_at e1
    have qoff : s_off _ h1 m (m + 1) := s_off.rf.up e1 (by omega)
    have hw : m_ss h1 m I0 sn P tm rp tx len dp X := m_ss.fd (f := 16) hP hfr h21 h22 hD hb (by omega) qoff (s_up_at e1)
    have hoff := hoff.w qoff (by omega)
    obtain ⟨I, w, hP, hfr, h21, h22, hD, htk⟩ := id hw
    have hm := hP.1.1
    have hx := hP.2.2.2.2.2.1
    refine g_aload_n dX9_command_54 rfl (by rfl) ?_
    refine g_callV_e (c_X9_good hw hK hn) dX9_command_55 (mX9_good) rfl lX9_198 iX9_good vX9_good (Nat.le_trans (by decide) hk9) (by omega) (by exact hm) rfl rfl rfl rfl (Nat.le_of_ble_eq_true rfl) ?_
    rw [if_neg hb]
    refine g_if_eq (tgt := 65) dX9_command_58 (by decide) (fun _ => ?_) (fun c_58 => absurd rfl c_58)
    refine g_vreturn dX9_command_65 rfl ?_
    rw [hXe]
    exact ⟨rfl, rfl, hw, hoff⟩
  have tailG : 2 ≤ W ∧ W < 12 → ¬ 100 ≤ S.2.2.2.2.2.2 → s_G (TX9_command k) (s_rp n (fun v9 h1 => v9 = none ∧ m_ss h1 m I0 sn P tm rp tx len dp (x_stp tx len rpt S).2 ∧ m_of h h1 m) s_no) 44 (s_lvs [(0, .ref m)]) [] h n 0 0 := by
    intro hWW h100
    have hnr : ¬ x_is tx S.2.2.2.1 S.2.2.2.2.1 S.2.2.2.2.2.1 1 = true := by rw [hW1 1 (by omega), decide_eq_false (by omega)]; decide
    rw [if_pos hWW] at hfc
    obtain ⟨j, rfl⟩ : ∃ j, W = 2 + j := ⟨W - 2, by omega⟩
    rw [show 2 + j - 2 = j by omega] at hfc
    refine g_aload_n dX9_command_44 rfl (by rfl) ?_
    refine g_dup dX9_command_45 (by rfl) ?_
    refine g_getf dX9_command_46 fX9_217 (by exact hm) (by omega) (by rfl) ?_
    rw [h16]
    refine g_iconst 1 dX9_command_49 (by rfl) ?_
    refine g_iadd dX9_command_50 ?_
    rw [nI_1]
    refine g_putf' dX9_command_51 pX9_217 (by exact hm) (by omega) (by exact Nat.le_of_ble_eq_true rfl) (by rfl) (by rfl) (fun h1 e1 => ?_)
    first | have hm_1 := s_up_off e1 (by omega) hm | have hm_1 := s_up_at e1
    first | have hx_1 := s_up_off e1 (by omega) hx | have hx_1 := s_up_at e1
    have qoff : s_off _ h1 m (m + 1) := s_off.rf.up e1 (by omega)
    have hw : m_ss h1 m I0 sn P tm rp tx len dp (x_ex1 S) := ⟨upd I 16 (nI (S.2.2.2.2.2.2 + 1)), w, hP.fl qoff (s_up_at e1), fun k hk => (upd_ne (by omega)).trans (hfr k hk), (upd_ne (by omega)).trans h21, (upd_ne (by omega)).trans h22, hD, fun z => ⟨(upd_ne (by omega)).trans h15, upd_at, hq, (upd_ne (by omega)).trans h17, htq, (upd_ne (by omega)).trans h18, (upd_ne (by omega)).trans h19, fun y => (upd_ne (by omega)).trans (h20 y)⟩⟩
    have hoff := hoff.w qoff (by omega)
    obtain ⟨I, w, hP, hfr, h21, h22, hD, htk⟩ := id hw
    have hm := hP.1.1
    have hx := hP.2.2.2.2.2.1
    refine g_aload_n dX9_command_54 rfl (by rfl) ?_
    refine g_callV_e (c_X9_good hw hK hn) dX9_command_55 (mX9_good) rfl lX9_198 iX9_good vX9_good (Nat.le_trans (by decide) hk9) (by omega) (by exact hm) rfl rfl rfl rfl (Nat.le_of_ble_eq_true rfl) ?_
    rw [if_pos (show (x_ex1 S).2.1 = 0 from hg)]
    refine g_if_eq (tgt := 65) dX9_command_58 (by decide) (fun c_58 => absurd c_58 (by decide)) (fun _ => ?_)
    refine g_aload_n dX9_command_61 rfl (by rfl) ?_
    refine g_callV_p (c_oneCommand hw hK hn (S := x_ex1 S) hg (j := j) (by omega) hW) dX9_command_62 (mX9_oneCommand) rfl lX9_265 iX9_oneCommand vX9_oneCommand (Nat.le_trans (by decide) hk9) (by omega) (by exact hm) rfl rfl rfl rfl (Nat.le_of_ble_eq_true rfl) (fun v9 h9 z9 => ?_)
    obtain ⟨rfl, hw, qoff⟩ := z9
    have hoff := hoff.trans qoff
    obtain ⟨I, w, hP, hfr, h21, h22, hD, htk⟩ := id hw
    have hm := hP.1.1
    have hx := hP.2.2.2.2.2.1
    refine g_vreturn dX9_command_65 rfl ?_
    rw [x_stp_n hnr, x_cmd_s hfc h100]
    exact ⟨rfl, rfl, hw, hoff⟩
  refine s_Mt_of rfl (show plainName "BackupPlannerModel" = true by decide) (by exact Nat.le_of_ble_eq_true rfl) ?_
  refine g_aload_n dX9_command_0 rfl (by rfl) ?_
  refine g_kstrW (i := 1) (text := "repeat") (show ("BackupPlannerModel", 257, "repeat", 1) ∈ s_str by decide) dX9_command_1 ?_
  refine g_callV_e (c_X9_isWord hw hK hn (i := 1) (by decide)) dX9_command_4 (mX9_isWord) rfl lX9_222 iX9_isWord vX9_isWord (Nat.le_trans (by decide) hk9) (by omega) (by exact hm) rfl rfl rfl rfl (Nat.le_of_ble_eq_true rfl) ?_
  rw [hW 1 (by decide)]
  refine g_if_eq (tgt := 15) dX9_command_7 (by decide) (fun c_7 => ?_) (fun c_7 => ?_)
  · have n1 : ¬ W = 1 := fun z => by rw [decide_eq_true z.symm] at c_7; exact absurd c_7 (by decide)
    have hnr : ¬ x_is tx S.2.2.2.1 S.2.2.2.2.1 S.2.2.2.2.2.1 1 = true := by rw [hW1 1 (by omega), decide_eq_false (fun z => n1 z.symm)]; decide
    refine g_aload_n dX9_command_15 rfl (by rfl) ?_
    refine g_callV_e (c_isCommand hw hK hn hW hW12) dX9_command_16 (mX9_isCommand) rfl lX9_262 iX9_isCommand vX9_isCommand (Nat.le_trans (by decide) hk9) (by omega) (by exact hm) rfl rfl rfl rfl (Nat.le_of_ble_eq_true rfl) ?_
    refine g_if_ne (tgt := 30) dX9_command_19 (by decide) (fun c_19 => ?_) (fun c_19 => ?_)
    · have hWW : 2 ≤ W ∧ W < 12 := Classical.byContradiction fun z => c_19 (if_neg z)
      refine g_aload_n dX9_command_30 rfl (by rfl) ?_
      refine g_getf dX9_command_31 fX9_217 (by exact hm) (by omega) (by rfl) ?_
      rw [h16]
      refine g_bipush 100 dX9_command_34 (by rfl) ?_
      refine g_icmp_ne (tgt := 44) dX9_command_36 (by decide) (fun c_36 => ?_) (fun c_36 => ?_)
      · have h100 : ¬ 100 ≤ S.2.2.2.2.2.2 := fun z => c_36 (by rw [show S.2.2.2.2.2.2 = 100 by omega]; rfl)
        first
        | exact g_lv (tailG hWW h100) ⟨rfl, trivial⟩
        | exact g_lv (tailF _ (x_fail S 1) hw (show ¬ (1 : Int32) = 0 by decide) (by rw [x_stp_n hnr, x_cmd_n hfc]) hoff) ⟨rfl, trivial⟩
        | exact g_lv (tailF _ (x_fail S 5) hw (show ¬ (5 : Int32) = 0 by decide) (by rw [x_stp_n hnr, x_cmd_5 hfc h100]) hoff) ⟨rfl, trivial⟩
      · have h100 : 100 ≤ S.2.2.2.2.2.2 := by
          have := nI_inj (a := S.2.2.2.2.2.2) (b := 100) (by omega) (by omega) c_36
          omega
        rw [if_pos hWW] at hfc
        refine g_aload_n dX9_command_39 rfl (by rfl) ?_
        refine g_iconst 5 dX9_command_40 (by rfl) ?_
        refine g_callV_p (c_X9_fail hw hK hn (k := 5) (by decide)) dX9_command_41 (mX9_fail) rfl lX9_205 iX9_fail vX9_fail (Nat.le_trans (by decide) hk9) (by omega) (by exact hm) rfl rfl rfl rfl (Nat.le_of_ble_eq_true rfl) (fun v9 h9 z9 => ?_)
        obtain ⟨rfl, hw, qoff⟩ := z9
        have hoff := hoff.trans qoff
        obtain ⟨I, w, hP, hfr, h21, h22, hD, htk⟩ := id hw
        have hm := hP.1.1
        have hx := hP.2.2.2.2.2.1
        rw [m_fl_y hg] at hw
        first
        | exact g_lv (tailG hWW h100) ⟨rfl, trivial⟩
        | exact g_lv (tailF _ (x_fail S 1) hw (show ¬ (1 : Int32) = 0 by decide) (by rw [x_stp_n hnr, x_cmd_n hfc]) hoff) ⟨rfl, trivial⟩
        | exact g_lv (tailF _ (x_fail S 5) hw (show ¬ (5 : Int32) = 0 by decide) (by rw [x_stp_n hnr, x_cmd_5 hfc h100]) hoff) ⟨rfl, trivial⟩
    · have hWn : ¬ (2 ≤ W ∧ W < 12) := fun z => by rw [if_pos z] at c_19; exact absurd c_19 (by decide)
      rw [if_neg hWn] at hfc
      refine g_aload_n dX9_command_22 rfl (by rfl) ?_
      refine g_iconst 1 dX9_command_23 (by rfl) ?_
      refine g_callV_p (c_X9_fail hw hK hn (k := 1) (by decide)) dX9_command_24 (mX9_fail) rfl lX9_205 iX9_fail vX9_fail (Nat.le_trans (by decide) hk9) (by omega) (by exact hm) rfl rfl rfl rfl (Nat.le_of_ble_eq_true rfl) (fun v9 h9 z9 => ?_)
      obtain ⟨rfl, hw, qoff⟩ := z9
      have hoff := hoff.trans qoff
      obtain ⟨I, w, hP, hfr, h21, h22, hD, htk⟩ := id hw
      have hm := hP.1.1
      have hx := hP.2.2.2.2.2.1
      rw [m_fl_y hg] at hw
      refine g_goto (tgt := 44) dX9_command_27 (by decide) ?_
      first
      | exact g_lv (tailG hWW h100) ⟨rfl, trivial⟩
      | exact g_lv (tailF _ (x_fail S 1) hw (show ¬ (1 : Int32) = 0 by decide) (by rw [x_stp_n hnr, x_cmd_n hfc]) hoff) ⟨rfl, trivial⟩
      | exact g_lv (tailF _ (x_fail S 5) hw (show ¬ (5 : Int32) = 0 by decide) (by rw [x_stp_n hnr, x_cmd_5 hfc h100]) hoff) ⟨rfl, trivial⟩
  · have y1 : W = 1 := Classical.byContradiction fun z => c_7 (by rw [decide_eq_false (fun y => z y.symm)]; rfl)
    have hyr : x_is tx S.2.2.2.1 S.2.2.2.2.1 S.2.2.2.2.2.1 1 = true := by rw [hW1 1 (by omega), decide_eq_true y1.symm]
    refine g_aload_n dX9_command_10 rfl (by rfl) ?_
    refine g_callV_p (RP _ _ hw hg hex) dX9_command_11 (mX9_repeatCommand _) rfl lX9_259 iX9_repeatCommand vX9_repeatCommand hkr (by omega) (by exact hm) rfl rfl rfl rfl (Nat.le_of_ble_eq_true rfl) (fun v9 h9 z9 => ?_)
    obtain ⟨rfl, hw, qoff⟩ := z9
    have hoff := hoff.trans qoff
    obtain ⟨I, w, hP, hfr, h21, h22, hD, htk⟩ := id hw
    have hm := hP.1.1
    have hx := hP.2.2.2.2.2.1
    refine g_vreturn dX9_command_14 rfl ?_
    rw [x_stp_y hyr]
    exact ⟨rfl, rfl, hw, hoff⟩

theorem m_rp109 {n m len dp dp2 : Nat} {I0 sn tm rp tx : Nat → Int32} {P : Nat → Nat → Int32} (hK : m_kx I0 tm tx len) (hn : m + 21 ≤ n) {k : Nat} (hk4 : 4 ≤ k) {h0 h : s_H} {X : x_S} (hw : m_ss h m I0 sn P tm rp tx len dp2 X) (hb : ¬ X.2.1 = 0) (hoff : m_of h0 h m) {lv : s_V} (l0 : lv 0 = some (.ref m)) : s_G (TX9_repeatCommand k) (s_rp n (fun v9 h1 => v9 = none ∧ m_ss h1 m I0 sn P tm rp tx len dp X ∧ m_of h0 h1 m) s_no) 109 lv [] h n 0 0 := by
  have hw : m_ss h m I0 sn P tm rp tx len dp X := hw.dp hb
  refine g_lv (l := [(0, .ref m)]) ?_ ⟨l0, trivial⟩
  obtain ⟨I, w, hP, hfr, h21, h22, hD, htk⟩ := id hw
  have hm := hP.1.1
  refine g_aload_n dX9_repeatCommand_109 rfl (by rfl) ?_
  refine g_dup dX9_repeatCommand_110 (by rfl) ?_
  refine g_getf dX9_repeatCommand_111 fX9_214 (by exact hm) (by omega) (by rfl) ?_
  refine g_iconst 1 dX9_repeatCommand_114 (by rfl) ?_
  refine g_isub dX9_repeatCommand_115 ?_
  refine g_putf' dX9_repeatCommand_116 pX9_214 (by exact hm) (by omega) (by exact Nat.le_of_ble_eq_true rfl) (by rfl) (by rfl) (fun h1 e1 => ?_)
  first | have hm_1 := s_up_off e1 (by omega) hm | have hm_1 := s_up_at e1
  first | have hx_1 := s_up_off e1 (by omega) hx | have hx_1 := s_up_at e1
  have qoff : s_off _ h1 m (m + 1) := s_off.rf.up e1 (by omega)
  have hw : m_ss h1 m I0 sn P tm rp tx len dp X := m_ss.fd (f := 15) hP hfr h21 h22 hD hb (by omega) qoff (s_up_at e1)
  have hoff := hoff.w qoff (by omega)
  obtain ⟨I, w, hP, hfr, h21, h22, hD, htk⟩ := id hw
  have hm := hP.1.1
  have hx := hP.2.2.2.2.2.1
  refine g_aload_n dX9_repeatCommand_119 rfl (by rfl) ?_
  refine g_callV_p (c_advance hw hK hn) dX9_repeatCommand_120 (mX9_advance) rfl lX9_208 iX9_advance vX9_advance (Nat.le_trans (by decide) hk4) (by omega) (by exact hm) rfl rfl rfl rfl (Nat.le_of_ble_eq_true rfl) (fun v9 h9 z9 => ?_)
  obtain ⟨rfl, hw, qoff⟩ := z9
  have hoff := hoff.trans qoff
  obtain ⟨I, w, hP, hfr, h21, h22, hD, htk⟩ := id hw
  have hm := hP.1.1
  have hx := hP.2.2.2.2.2.1
  rw [x_nx_n hb] at hw
  refine g_aload_n dX9_repeatCommand_123 rfl (by rfl) ?_
  refine g_iconst (x_bi true) dX9_repeatCommand_124 (by rfl) ?_
  refine g_callV_p (c_ends hw hK hn true) dX9_repeatCommand_125 (mX9_ends) rfl lX9_226 iX9_ends vX9_ends (Nat.le_trans (by decide) hk4) (by omega) (by exact hm) rfl rfl rfl rfl (Nat.le_of_ble_eq_true rfl) (fun v9 h9 z9 => ?_)
  obtain ⟨rfl, hw, qoff⟩ := z9
  have hoff := hoff.trans qoff
  obtain ⟨I, w, hP, hfr, h21, h22, hD, htk⟩ := id hw
  have hm := hP.1.1
  have hx := hP.2.2.2.2.2.1
  rw [m_en_f hb] at hw
  refine g_istore_n dX9_repeatCommand_128 rfl (by exact Nat.le_of_ble_eq_true rfl) ?_
  refine g_vreturn dX9_repeatCommand_129 rfl ?_
  exact ⟨rfl, rfl, hw, hoff⟩

theorem m_rp55 {n m len dp dp2 : Nat} {I0 sn tm rp tx : Nat → Int32} {P : Nat → Nat → Int32} (hK : m_kx I0 tm tx len) (hn : m + 21 ≤ n) {k : Nat} (hk4 : 4 ≤ k) {h0 h : s_H} {X : x_S} (hw : m_ss h m I0 sn P tm rp tx len dp2 X) (hb : ¬ X.2.1 = 0) (hoff : m_of h0 h m) {lv : s_V} {a c : Int32} (l0 : lv 0 = some (.ref m)) (l1 : lv 1 = some (.int a)) (l3 : lv 3 = some (.int c)) : s_G (TX9_repeatCommand k) (s_rp n (fun v9 h1 => v9 = none ∧ m_ss h1 m I0 sn P tm rp tx len dp X ∧ m_of h0 h1 m) s_no) 55 lv [] h n 0 0 := by
  have hw : m_ss h m I0 sn P tm rp tx len dp X := hw.dp hb
  refine g_lv (l := [(0, .ref m), (1, .int a), (3, .int c)]) ?_ ⟨l0, l1, l3, trivial⟩
  obtain ⟨I, w, hP, hfr, h21, h22, hD, htk⟩ := id hw
  have hm := hP.1.1
  refine g_iload_n dX9_repeatCommand_55 rfl (by rfl) ?_
  refine g_iload_n dX9_repeatCommand_56 rfl (by rfl) ?_
  refine g_icmp_ge (tgt := 109) dX9_repeatCommand_57 (by decide) (fun c_57 => ?_) (fun c_57 => ?_)
  · exact m_rp109 hK hn hk4 hw hb hoff rfl
  · refine g_aload_n dX9_repeatCommand_60 rfl (by rfl) ?_
    refine g_callV_e (c_X9_good hw hK hn) dX9_repeatCommand_61 (mX9_good) rfl lX9_198 iX9_good vX9_good (Nat.le_trans (by decide) hk4) (by omega) (by exact hm) rfl rfl rfl rfl (Nat.le_of_ble_eq_true rfl) ?_
    rw [if_neg hb]
    refine g_if_eq (tgt := 109) dX9_repeatCommand_64 (by decide) (fun _ => ?_) (fun c_64 => absurd rfl c_64)
    exact m_rp109 hK hn hk4 hw hb hoff rfl

theorem m_rp38 {n m len dp : Nat} {I0 sn tm rp tx : Nat → Int32} {P : Nat → Nat → Int32} (hK : m_kx I0 tm tx len) (hn : m + 21 ≤ n) {k : Nat} (hk4 : 4 ≤ k) {h0 h : s_H} {X : x_S} (hw : m_ss h m I0 sn P tm rp tx len dp X) (hb : ¬ X.2.1 = 0) (hoff : m_of h0 h m) {lv : s_V} {a : Int32} (l0 : lv 0 = some (.ref m)) (l1 : lv 1 = some (.int a)) : s_G (TX9_repeatCommand k) (s_rp n (fun v9 h1 => v9 = none ∧ m_ss h1 m I0 sn P tm rp tx len dp X ∧ m_of h0 h1 m) s_no) 38 lv [] h n 0 0 := by
  refine g_lv (l := [(0, .ref m), (1, .int a)]) ?_ ⟨l0, l1, trivial⟩
  obtain ⟨I, w, hP, hfr, h21, h22, hD, htk⟩ := id hw
  have hm := hP.1.1
  refine g_aload_n dX9_repeatCommand_38 rfl (by rfl) ?_
  refine g_getf dX9_repeatCommand_39 fX9_165 (by exact hm) (by omega) (by rfl) ?_
  refine g_istore_n dX9_repeatCommand_42 rfl (by exact Nat.le_of_ble_eq_true rfl) ?_
  refine g_aload_n dX9_repeatCommand_43 rfl (by rfl) ?_
  refine g_dup dX9_repeatCommand_44 (by rfl) ?_
  refine g_getf dX9_repeatCommand_45 fX9_214 (by exact hm) (by omega) (by rfl) ?_
  refine g_iconst 1 dX9_repeatCommand_48 (by rfl) ?_
  refine g_iadd dX9_repeatCommand_49 ?_
  refine g_putf' dX9_repeatCommand_50 pX9_214 (by exact hm) (by omega) (by exact Nat.le_of_ble_eq_true rfl) (by rfl) (by rfl) (fun h1 e1 => ?_)
  first | have hm_1 := s_up_off e1 (by omega) hm | have hm_1 := s_up_at e1
  first | have hx_1 := s_up_off e1 (by omega) hx | have hx_1 := s_up_at e1
  have qoff : s_off _ h1 m (m + 1) := s_off.rf.up e1 (by omega)
  have hw : m_ss h1 m I0 sn P tm rp tx len dp X := m_ss.fd (f := 15) hP hfr h21 h22 hD hb (by omega) qoff (s_up_at e1)
  have hoff := hoff.w qoff (by omega)
  obtain ⟨I, w, hP, hfr, h21, h22, hD, htk⟩ := id hw
  have hm := hP.1.1
  have hx := hP.2.2.2.2.2.1
  refine g_iconst 0 dX9_repeatCommand_53 (by rfl) ?_
  refine g_istore_n dX9_repeatCommand_54 rfl (by exact Nat.le_of_ble_eq_true rfl) ?_
  exact m_rp55 (dp2 := dp) hK hn hk4 hw hb hoff rfl rfl rfl

theorem m_rp25 {n m len dp : Nat} {I0 sn tm rp tx : Nat → Int32} {P : Nat → Nat → Int32} (hK : m_kx I0 tm tx len) (hn : m + 21 ≤ n) {k : Nat} (hk4 : 4 ≤ k) {h0 h : s_H} {X : x_S} (hw : m_ss h m I0 sn P tm rp tx len dp X) (hb : ¬ X.2.1 = 0) (hoff : m_of h0 h m) {lv : s_V} {a : Int32} (l0 : lv 0 = some (.ref m)) (l1 : lv 1 = some (.int a)) : s_G (TX9_repeatCommand k) (s_rp n (fun v9 h1 => v9 = none ∧ m_ss h1 m I0 sn P tm rp tx len dp X ∧ m_of h0 h1 m) s_no) 25 lv [] h n 0 0 := by
  refine g_lv (l := [(0, .ref m), (1, .int a)]) ?_ ⟨l0, l1, trivial⟩
  obtain ⟨I, w, hP, hfr, h21, h22, hD, htk⟩ := id hw
  have hm := hP.1.1
  refine g_aload_n dX9_repeatCommand_25 rfl (by rfl) ?_
  refine g_getf dX9_repeatCommand_26 fX9_171 (by exact hm) (by omega) (by rfl) ?_
  refine g_iconst 5 dX9_repeatCommand_29 (by rfl) ?_
  refine g_icmp_eq (tgt := 38) dX9_repeatCommand_30 (by decide) (fun c_30 => ?_) (fun c_30 => ?_)
  · exact m_rp38 hK hn hk4 hw hb hoff rfl rfl
  · refine g_aload_n dX9_repeatCommand_33 rfl (by rfl) ?_
    refine g_iconst 1 dX9_repeatCommand_34 (by rfl) ?_
    refine g_callV_p (c_X9_fail hw hK hn (k := 1) (by decide)) dX9_repeatCommand_35 (mX9_fail) rfl lX9_205 iX9_fail vX9_fail (Nat.le_trans (by decide) hk4) (by omega) (by exact hm) rfl rfl rfl rfl (Nat.le_of_ble_eq_true rfl) (fun v9 h9 z9 => ?_)
    obtain ⟨rfl, hw, qoff⟩ := z9
    have hoff := hoff.trans qoff
    obtain ⟨I, w, hP, hfr, h21, h22, hD, htk⟩ := id hw
    have hm := hP.1.1
    have hx := hP.2.2.2.2.2.1
    rw [m_fl_n hb] at hw
    exact m_rp38 hK hn hk4 hw hb hoff rfl rfl

theorem c_repeat2 {n m len : Nat} {I0 sn tm rp tx : Nat → Int32} {P : Nat → Nat → Int32} (hK : m_kx I0 tm tx len) (hn : m + 21 ≤ n) {k : Nat} (hk4 : 4 ≤ k) {h : s_H} {S : x_S} (hw : m_ss h m I0 sn P tm rp tx len 2 S) (hg : S.2.1 = 0) : s_Mt (TX9_repeatCommand k) 0 0 [.ref m] h n (s_rp n (fun v9 h1 => v9 = none ∧ m_ss h1 m I0 sn P tm rp tx len 2 (x_fail S 4) ∧ m_of h h1 m) s_no) := by
  obtain ⟨I, w, hP, hfr, h21, h22, hD, htk⟩ := id hw
  have hm := hP.1.1
  have hx := hP.2.2.2.2.2.1
  have hoff : m_of h h m := m_of.rf
  refine s_Mt_of rfl (show plainName "BackupPlannerModel" = true by decide) (by exact Nat.le_of_ble_eq_true rfl) ?_
  refine g_aload_n dX9_repeatCommand_0 rfl (by rfl) ?_
  refine g_getf dX9_repeatCommand_1 fX9_214 (by exact hm) (by omega) (by rfl) ?_
  rw [(htk hg).1]
  refine g_iconst 2 dX9_repeatCommand_4 (by rfl) ?_
  refine g_icmp_ne (tgt := 13) dX9_repeatCommand_5 (by decide) (fun c_5 => absurd rfl c_5) (fun _ => ?_)
  refine g_aload_n dX9_repeatCommand_8 rfl (by rfl) ?_
  refine g_iconst 4 dX9_repeatCommand_9 (by rfl) ?_
  refine g_callV_p (c_X9_fail hw hK hn (k := 4) (by decide)) dX9_repeatCommand_10 (mX9_fail) rfl lX9_205 iX9_fail vX9_fail (Nat.le_trans (by decide) hk4) (by omega) (by exact hm) rfl rfl rfl rfl (Nat.le_of_ble_eq_true rfl) (fun v9 h9 z9 => ?_)
  obtain ⟨rfl, hw, qoff⟩ := z9
  have hoff := hoff.trans qoff
  obtain ⟨I, w, hP, hfr, h21, h22, hD, htk⟩ := id hw
  have hm := hP.1.1
  have hx := hP.2.2.2.2.2.1
  rw [m_fl_y hg] at hw
  have hb : ¬ (x_fail S 4).2.1 = 0 := show ¬ (4 : Int32) = 0 by decide
  refine g_aload_n dX9_repeatCommand_13 rfl (by rfl) ?_
  refine g_callV_p (c_advance hw hK hn) dX9_repeatCommand_14 (mX9_advance) rfl lX9_208 iX9_advance vX9_advance (Nat.le_trans (by decide) hk4) (by omega) (by exact hm) rfl rfl rfl rfl (Nat.le_of_ble_eq_true rfl) (fun v9 h9 z9 => ?_)
  obtain ⟨rfl, hw, qoff⟩ := z9
  have hoff := hoff.trans qoff
  obtain ⟨I, w, hP, hfr, h21, h22, hD, htk⟩ := id hw
  have hm := hP.1.1
  have hx := hP.2.2.2.2.2.1
  rw [x_nx_n hb] at hw
  refine g_aload_n dX9_repeatCommand_17 rfl (by rfl) ?_
  refine g_iconst 1 dX9_repeatCommand_18 (by rfl) ?_
  refine g_bipush 20 dX9_repeatCommand_19 (by rfl) ?_
  refine g_callV_p (c_number hw hK hn 1 20) dX9_repeatCommand_21 (mX9_number) rfl lX9_211 iX9_number vX9_number (Nat.le_trans (by decide) hk4) (by omega) (by exact hm) rfl rfl rfl rfl (Nat.le_of_ble_eq_true rfl) (fun v9 h9 z9 => ?_)
  obtain ⟨rfl, hw, qoff⟩ := z9
  have hoff := hoff.trans qoff
  obtain ⟨I, w, hP, hfr, h21, h22, hD, htk⟩ := id hw
  have hm := hP.1.1
  have hx := hP.2.2.2.2.2.1
  rw [m_nu_f hb, x_nx_n hb] at hw
  refine g_istore_n dX9_repeatCommand_24 rfl (by exact Nat.le_of_ble_eq_true rfl) ?_
  exact m_rp25 hK hn hk4 hw hb hoff rfl rfl

theorem m_rpG {n m len dp : Nat} {I0 sn tm rp tx : Nat → Int32} {P : Nat → Nat → Int32} (hK : m_kx I0 tm tx len) (hn : m + 21 ≤ n) {k : Nat} (hk4 : 4 ≤ k) {h0 h : s_H} {Z : x_S} (hw : m_ss h m I0 sn P tm rp tx len (dp + 1) Z) (hg : Z.2.1 = 0) (hoff : m_of h0 h m) {lv : s_V} (l0 : lv 0 = some (.ref m)) : s_G (TX9_repeatCommand k) (s_rp n (fun v9 h1 => v9 = none ∧ m_ss h1 m I0 sn P tm rp tx len dp (if (x_next tx len Z).2.2.2.2.1 = 59 then (true, x_next tx len Z) else (false, x_fail (x_next tx len Z) 1)).2 ∧ m_of h0 h1 m) s_no) 109 lv [] h n 0 0 := by
  refine g_lv (l := [(0, .ref m)]) ?_ ⟨l0, trivial⟩
  obtain ⟨I, w, hP, hfr, h21, h22, hD, htk⟩ := id hw
  have hm := hP.1.1
  obtain ⟨h15, h16, hq, h17, htq, h18, h19, h20⟩ := htk hg
  refine g_aload_n dX9_repeatCommand_109 rfl (by rfl) ?_
  refine g_dup dX9_repeatCommand_110 (by rfl) ?_
  refine g_getf dX9_repeatCommand_111 fX9_214 (by exact hm) (by omega) (by rfl) ?_
  rw [h15]
  refine g_iconst 1 dX9_repeatCommand_114 (by rfl) ?_
  refine g_isub dX9_repeatCommand_115 ?_
  rw [show (nI (dp + 1) - 1 : Int32) = nI dp from nI_sble (b := 1) (by omega)]
  refine g_putf' dX9_repeatCommand_116 pX9_214 (by exact hm) (by omega) (by exact Nat.le_of_ble_eq_true rfl) (by rfl) (by rfl) (fun h1 e1 => ?_)
  first | have hm_1 := s_up_off e1 (by omega) hm | have hm_1 := s_up_at e1
  first | have hx_1 := s_up_off e1 (by omega) hx | have hx_1 := s_up_at e1
  have qoff : s_off _ h1 m (m + 1) := s_off.rf.up e1 (by omega)
  have hw : m_ss h1 m I0 sn P tm rp tx len dp Z := ⟨upd I 15 (nI dp), w, hP.fl qoff (s_up_at e1), fun k hk => (upd_ne (by omega)).trans (hfr k hk), (upd_ne (by omega)).trans h21, (upd_ne (by omega)).trans h22, hD, fun z => ⟨upd_at, (upd_ne (by omega)).trans h16, hq, (upd_ne (by omega)).trans h17, htq, (upd_ne (by omega)).trans h18, (upd_ne (by omega)).trans h19, fun y => (upd_ne (by omega)).trans (h20 y)⟩⟩
  have hoff := hoff.w qoff (by omega)
  obtain ⟨I, w, hP, hfr, h21, h22, hD, htk⟩ := id hw
  have hm := hP.1.1
  have hx := hP.2.2.2.2.2.1
  refine g_aload_n dX9_repeatCommand_119 rfl (by rfl) ?_
  refine g_callV_p (c_advance hw hK hn) dX9_repeatCommand_120 (mX9_advance) rfl lX9_208 iX9_advance vX9_advance (Nat.le_trans (by decide) hk4) (by omega) (by exact hm) rfl rfl rfl rfl (Nat.le_of_ble_eq_true rfl) (fun v9 h9 z9 => ?_)
  obtain ⟨rfl, hw, qoff⟩ := z9
  have hoff := hoff.trans qoff
  obtain ⟨I, w, hP, hfr, h21, h22, hD, htk⟩ := id hw
  have hm := hP.1.1
  have hx := hP.2.2.2.2.2.1
  rw [x_nx_y hg] at hw
  refine g_aload_n dX9_repeatCommand_123 rfl (by rfl) ?_
  refine g_iconst (x_bi true) dX9_repeatCommand_124 (by rfl) ?_
  refine g_callV_p (c_ends hw hK hn true) dX9_repeatCommand_125 (mX9_ends) rfl lX9_226 iX9_ends vX9_ends (Nat.le_trans (by decide) hk4) (by omega) (by exact hm) rfl rfl rfl rfl (Nat.le_of_ble_eq_true rfl) (fun v9 h9 z9 => ?_)
  obtain ⟨rfl, hw, qoff⟩ := z9
  have hoff := hoff.trans qoff
  obtain ⟨I, w, hP, hfr, h21, h22, hD, htk⟩ := id hw
  have hm := hP.1.1
  have hx := hP.2.2.2.2.2.1
  rw [m_en_g (S := x_next tx len Z) hg] at hw
  refine g_istore_n dX9_repeatCommand_128 rfl (by exact Nat.le_of_ble_eq_true rfl) ?_
  refine g_vreturn dX9_repeatCommand_129 rfl ?_
  exact ⟨rfl, rfl, hw, hoff⟩

theorem x_rpl_y {tx : Nat → Int32} {len body r : Nat} {rc : x_S → Bool × x_S} {S : x_S} (h : (rc (x_to body S)).1 = true) : x_rpl tx len rc body (r + 1) S = x_rpl tx len rc body r (rc (x_to body S)).2 := if_pos h
theorem x_rpl_n {tx : Nat → Int32} {len body r : Nat} {rc : x_S → Bool × x_S} {S : x_S} (h : ¬ (rc (x_to body S)).1 = true) : x_rpl tx len rc body (r + 1) S = (false, (rc (x_to body S)).2) := if_neg h

theorem m_rpL {n m len dp : Nat} {I0 sn tm rp tx : Nat → Int32} {P : Nat → Nat → Int32} (hK : m_kx I0 tm tx len) (hn : m + 21 ≤ n) {k kc : Nat} {rpt : x_S → Bool × x_S} (CMD : ∀ (h : s_H) (S : x_S), m_ss h m I0 sn P tm rp tx len (dp + 1) S → S.2.1 = 0 → S.2.2.2.2.2.2 ≤ 100 → s_Mt (TX9_command kc) 0 0 [.ref m] h n (s_rp n (fun v9 h1 => v9 = none ∧ m_ss h1 m I0 sn P tm rp tx len (dp + 1) (x_stp tx len rpt S).2 ∧ m_of h h1 m) s_no)) (hrw : x_wf len rpt) (hrk : x_keeps rpt) (hkc : kc + 1 ≤ k) (hk4 : 4 ≤ k) {h : s_H} {res : x_S} {tms body : Nat} (ht : tms ≤ 20) (hbl : body ≤ len) : ∀ (r i : Nat) (Z : x_S) (h' : s_H), i + r = tms → m_ss h' m I0 sn P tm rp tx len (dp + 1) Z → Z.2.1 = 0 → Z.2.2.2.2.2.2 ≤ 100 → res = (x_rpl tx len (x_rcF tx len rpt 41 501) body r Z).2 → m_of h h' m → s_G (TX9_repeatCommand k) (s_rp n (fun v9 h1 => v9 = none ∧ m_ss h1 m I0 sn P tm rp tx len dp res ∧ m_of h h1 m) s_no) 55 (s_lvs [(0, .ref m), (1, .int (nI tms)), (2, .int (nI body)), (3, .int (nI i))]) [] h' n 0 0 := by
  intro r
  have hl5 := hK.2.2
  induction r with
  | zero =>
    intro i Z h' hir hw hg hexZ hres hoff
    have hres : res = (if (x_next tx len Z).2.2.2.2.1 = 59 then (true, x_next tx len Z) else (false, x_fail (x_next tx len Z) 1)).2 := hres
    obtain ⟨I, w, hP, hfr, h21, h22, hD, htk⟩ := id hw
    have hm := hP.1.1
    refine g_iload_n dX9_repeatCommand_55 rfl (by rfl) ?_
    refine g_iload_n dX9_repeatCommand_56 rfl (by rfl) ?_
    refine g_icmp_ge (tgt := 109) dX9_repeatCommand_57 (by decide) (fun _ => ?_) (fun c_57 => absurd (nI_le (by omega) (by omega)) c_57)
    rw [hres]
    exact m_rpG hK hn hk4 hw hg hoff rfl
  | succ r ih =>
    intro i Z h' hir hw hg hexZ hres hoff
    have bad : ∀ (X : x_S) (h' : s_H), m_ss h' m I0 sn P tm rp tx len (dp + 1) X → ¬ X.2.1 = 0 → X = res → m_of h h' m → s_G (TX9_repeatCommand k) (s_rp n (fun v9 h1 => v9 = none ∧ m_ss h1 m I0 sn P tm rp tx len dp res ∧ m_of h h1 m) s_no) 76 (s_lvs [(0, .ref m), (1, .int (nI tms)), (2, .int (nI body)), (3, .int (nI i))]) [] h' n 0 0 := by
      intro X h' hw hb hXr hoff
      obtain ⟨I, w, hP, hfr, h21, h22, hD, htk⟩ := id hw
      have hm := hP.1.1
      refine g_aload_n dX9_repeatCommand_76 rfl (by rfl) ?_
      refine g_callV_e (c_X9_good hw hK hn) dX9_repeatCommand_77 (mX9_good) rfl lX9_198 iX9_good vX9_good (Nat.le_trans (by decide) hk4) (by omega) (by exact hm) rfl rfl rfl rfl (Nat.le_of_ble_eq_true rfl) ?_
      rw [if_neg hb]
      refine g_if_eq (tgt := 103) dX9_repeatCommand_80 (by decide) (fun _ => ?_) (fun c_80 => absurd rfl c_80)
      refine g_iinc (nI (i + 1)) dX9_repeatCommand_103 (by rfl) (nI_inc i) ?_
      refine g_goto (tgt := 55) dX9_repeatCommand_106 (by decide) ?_
      have z9 := m_rp55 (dp := dp) (dp2 := dp + 1) (k := k) (h0 := h) (lv := s_lvs [(0, .ref m), (1, .int (nI tms)), (2, .int (nI body)), (3, .int (nI (i + 1)))]) (a := nI tms) (c := nI (i + 1)) hK hn hk4 hw hb hoff rfl rfl rfl
      rw [hXr] at z9
      exact g_lv z9 ⟨rfl, rfl, rfl, rfl, trivial⟩
    have inner : ∀ (f : Nat) (A : x_S) (h' : s_H), A.2.1 = 0 → A.2.2.2.1 ≤ len → len - A.2.2.2.1 < f → A.2.2.2.2.2.2 ≤ 100 → (x_rcF tx len rpt 41 501) (x_to body Z) = x_rcF tx len rpt 41 f A → m_ss h' m I0 sn P tm rp tx len (dp + 1) (x_next tx len A) → m_of h h' m → s_G (TX9_repeatCommand k) (s_rp n (fun v9 h1 => v9 = none ∧ m_ss h1 m I0 sn P tm rp tx len dp res ∧ m_of h h1 m) s_no) 76 (s_lvs [(0, .ref m), (1, .int (nI tms)), (2, .int (nI body)), (3, .int (nI i))]) [] h' n 0 0 := by
      intro f
      induction f with
      | zero =>
        intro A h' hgA hqA hfA hexA hrc hw hoff
        omega
      | succ f ihf =>
        intro A h' hgA hqA hfA hexA hrc hw hoff
        have hgn : (x_next tx len A).2.1 = 0 := hgA
        have hqn := x_next_q (tx := tx) hqA
        rw [x_rcF_s (S := A) (f := f)] at hrc
        obtain ⟨I, w, hP, hfr, h21, h22, hD, htk⟩ := id hw
        have hm := hP.1.1
        obtain ⟨h15, h16, hq, h17, htq, h18, h19, h20⟩ := htk hgn
        have hexR : (x_stp tx len rpt (x_next tx len A)).2.2.2.2.2.2.2 ≤ 100 := by
          obtain ⟨cnt, cp, ok, -⟩ := hD
          exact x_stp_ok hrk (S := x_next tx len A) ok hexA
        refine g_aload_n dX9_repeatCommand_76 rfl (by rfl) ?_
        refine g_callV_e (c_X9_good hw hK hn) dX9_repeatCommand_77 (mX9_good) rfl lX9_198 iX9_good vX9_good (Nat.le_trans (by decide) hk4) (by omega) (by exact hm) rfl rfl rfl rfl (Nat.le_of_ble_eq_true rfl) ?_
        rw [if_pos hgn]
        refine g_if_eq (tgt := 103) dX9_repeatCommand_80 (by decide) (fun c_80 => absurd c_80 (by decide)) (fun _ => ?_)
        refine g_aload_n dX9_repeatCommand_83 rfl (by rfl) ?_
        refine g_getf dX9_repeatCommand_84 fX9_171 (by exact hm) (by omega) (by rfl) ?_
        rw [h19]
        refine g_bipush 6 dX9_repeatCommand_87 (by rfl) ?_
        refine g_icmp_eq (tgt := 103) dX9_repeatCommand_89 (by decide) (fun c_89 => ?_) (fun c_89 => ?_)
        · have h41 : (x_next tx len A).2.2.2.2.1 = 41 := m_kd_i.2.2.2.2.2.mp c_89
          rw [if_pos h41] at hrc
          refine g_iinc (nI (i + 1)) dX9_repeatCommand_103 (by rfl) (nI_inc i) ?_
          refine g_goto (tgt := 55) dX9_repeatCommand_106 (by decide) ?_
          exact g_lv (ih (i + 1) _ _ (by omega) hw hgn hexA (by rw [hres, x_rpl_y (by rw [hrc]), hrc]) hoff) ⟨rfl, rfl, rfl, rfl, trivial⟩
        · have h41 : ¬ (x_next tx len A).2.2.2.2.1 = 41 := fun z => c_89 (m_kd_i.2.2.2.2.2.mpr z)
          rw [if_neg h41] at hrc
          refine g_aload_n dX9_repeatCommand_92 rfl (by rfl) ?_
          refine g_callV_p (CMD _ _ hw hgn hexA) dX9_repeatCommand_93 (mX9_command _) rfl lX9_230 iX9_command vX9_command hkc (by omega) (by exact hm) rfl rfl rfl rfl (Nat.le_of_ble_eq_true rfl) (fun v9 h9 z9 => ?_)
          obtain ⟨rfl, hw, qoff⟩ := z9
          have hoff := hoff.trans qoff
          obtain ⟨I, w, hP, hfr, h21, h22, hD, htk⟩ := id hw
          have hm := hP.1.1
          have hx := hP.2.2.2.2.2.1
          refine g_aload_n dX9_repeatCommand_96 rfl (by rfl) ?_
          refine g_callV_p (c_advance hw hK hn) dX9_repeatCommand_97 (mX9_advance) rfl lX9_208 iX9_advance vX9_advance (Nat.le_trans (by decide) hk4) (by omega) (by exact hm) rfl rfl rfl rfl (Nat.le_of_ble_eq_true rfl) (fun v9 h9 z9 => ?_)
          obtain ⟨rfl, hw, qoff⟩ := z9
          have hoff := hoff.trans qoff
          obtain ⟨I, w, hP, hfr, h21, h22, hD, htk⟩ := id hw
          have hm := hP.1.1
          have hx := hP.2.2.2.2.2.1
          refine g_goto (tgt := 76) dX9_repeatCommand_100 (by decide) ?_
          by_cases hR : (x_stp tx len rpt (x_next tx len A)).1 = true
          · rw [if_pos hR] at hrc
            obtain ⟨r1, r2, r3⟩ := (x_stp_wf hrw (tx := tx) (x_next tx len A) hgn hqn.2).1 hR
            rw [x_nx_y r1] at hw
            have hgt := x_next_gt hqA (x_stp_w hR)
            exact g_lv (ihf (x_stp tx len rpt (x_next tx len A)).2 _ r1 r3 (by omega) hexR hrc hw hoff) ⟨rfl, rfl, rfl, rfl, trivial⟩
          · rw [if_neg hR] at hrc
            have hb : ¬ (x_stp tx len rpt (x_next tx len A)).2.2.1 = 0 := (x_stp_wf hrw (tx := tx) (x_next tx len A) hgn hqn.2).2 (by revert hR; cases (x_stp tx len rpt (x_next tx len A)).1 <;> simp)
            rw [x_nx_n hb] at hw
            exact g_lv (bad _ _ hw hb (by rw [hres, x_rpl_n (by rw [hrc]; exact Bool.false_ne_true), hrc]) hoff) ⟨rfl, rfl, rfl, rfl, trivial⟩
    obtain ⟨I, w, hP, hfr, h21, h22, hD, htk⟩ := id hw
    have hm := hP.1.1
    obtain ⟨h15, h16, hq, h17, htq, h18, h19, h20⟩ := htk hg
    refine g_iload_n dX9_repeatCommand_55 rfl (by rfl) ?_
    refine g_iload_n dX9_repeatCommand_56 rfl (by rfl) ?_
    refine g_icmp_ge (tgt := 109) dX9_repeatCommand_57 (by decide) (fun c_57 => absurd c_57 (nI_ge (by omega) (by omega))) (fun _ => ?_)
    refine g_aload_n dX9_repeatCommand_60 rfl (by rfl) ?_
    refine g_callV_e (c_X9_good hw hK hn) dX9_repeatCommand_61 (mX9_good) rfl lX9_198 iX9_good vX9_good (Nat.le_trans (by decide) hk4) (by omega) (by exact hm) rfl rfl rfl rfl (Nat.le_of_ble_eq_true rfl) ?_
    rw [if_pos hg]
    refine g_if_eq (tgt := 109) dX9_repeatCommand_64 (by decide) (fun c_64 => absurd c_64 (by decide)) (fun _ => ?_)
    refine g_aload_n dX9_repeatCommand_67 rfl (by rfl) ?_
    refine g_iload_n dX9_repeatCommand_68 rfl (by rfl) ?_
    refine g_putf' dX9_repeatCommand_69 pX9_165 (by exact hm) (by omega) (by exact Nat.le_of_ble_eq_true rfl) (by rfl) (by rfl) (fun h1 e1 => ?_)
    first | have hm_1 := s_up_off e1 (by omega) hm | have hm_1 := s_up_at e1
    first | have hx_1 := s_up_off e1 (by omega) hx | have hx_1 := s_up_at e1
    have qoff : s_off _ h1 m (m + 1) := s_off.rf.up e1 (by omega)
    have hw0 : m_s0 h1 m I0 sn P tm rp len (dp + 1) (x_to body Z) := ⟨upd I 17 (nI body), w, hP.fl qoff (s_up_at e1), fun k hk => (upd_ne (by omega)).trans (hfr k hk), (upd_ne (by omega)).trans h21, (upd_ne (by omega)).trans h22, hD, (upd_ne (by omega)).trans h15, (upd_ne (by omega)).trans h16, hbl, upd_at⟩
    have hoff := hoff.w qoff (by omega)
    have hm : h1 m = .inr (7, m_fs m (upd I 17 (nI body))) := s_up_at e1
    refine g_aload_n dX9_repeatCommand_72 rfl (by rfl) ?_
    refine g_callV_p (c_scan hw0 hK hn) dX9_repeatCommand_73 (mX9_scan) rfl lX9_202 iX9_scan vX9_scan (Nat.le_trans (by decide) hk4) (by omega) (by exact hm) rfl rfl rfl rfl (Nat.le_of_ble_eq_true rfl) (fun v9 h9 z9 => ?_)
    obtain ⟨rfl, hw, qoff⟩ := z9
    have hoff := hoff.trans qoff
    obtain ⟨I, w, hP, hfr, h21, h22, hD, htk⟩ := id hw
    have hm := hP.1.1
    have hx := hP.2.2.2.2.2.1
    exact g_lv (inner 501 (x_to body Z) _ hg hbl (by show len - body < 501; omega) hexZ rfl hw hoff) ⟨rfl, rfl, rfl, rfl, trivial⟩

theorem m_rpT38 {n m len dp : Nat} {I0 sn tm rp tx : Nat → Int32} {P : Nat → Nat → Int32} (hK : m_kx I0 tm tx len) (hn : m + 21 ≤ n) {k kc : Nat} {rpt : x_S → Bool × x_S} (CMD : ∀ (h : s_H) (S : x_S), m_ss h m I0 sn P tm rp tx len (dp + 1) S → S.2.1 = 0 → S.2.2.2.2.2.2 ≤ 100 → s_Mt (TX9_command kc) 0 0 [.ref m] h n (s_rp n (fun v9 h1 => v9 = none ∧ m_ss h1 m I0 sn P tm rp tx len (dp + 1) (x_stp tx len rpt S).2 ∧ m_of h h1 m) s_no)) (hrw : x_wf len rpt) (hrk : x_keeps rpt) (hkc : kc + 1 ≤ k) (hk4 : 4 ≤ k) {h h2 : s_H} {S : x_S} {tms : Nat} (hw : m_ss h2 m I0 sn P tm rp tx len dp (x_next tx len (x_next tx len S))) (hg : S.2.1 = 0) (hex : S.2.2.2.2.2.2 ≤ 100) (a1 : ¬ (x_rd tx len S.2.2.2.1 1 20).1 = -1) (a3 : x_num tx len 1 20 S = x_next tx len S) (et : (x_rd tx len S.2.2.2.1 1 20).1 = nI tms) (th : tms ≤ 20) (h40 : (x_next tx len (x_next tx len S)).2.2.2.2.1 = 40) (hoff : m_of h h2 m) {lv : s_V} (l0 : lv 0 = some (.ref m)) (l1 : lv 1 = some (.int (nI tms))) : s_G (TX9_repeatCommand k) (s_rp n (fun v9 h1 => v9 = none ∧ m_ss h1 m I0 sn P tm rp tx len dp (x_rpF tx len (x_rcF tx len rpt 41 501) S).2 ∧ m_of h h1 m) s_no) 38 lv [] h2 n 0 0 := by
  refine g_lv (l := [(0, .ref m), (1, .int (nI tms))]) ?_ ⟨l0, l1, trivial⟩
  have hg2 : (x_next tx len (x_next tx len S)).2.1 = 0 := hg
  obtain ⟨I, w, hP, hfr, h21, h22, hD, htk⟩ := id hw
  have hm := hP.1.1
  obtain ⟨h15, h16, hq, h17, htq, h18, h19, h20⟩ := htk hg2
  refine g_aload_n dX9_repeatCommand_38 rfl (by rfl) ?_
  refine g_getf dX9_repeatCommand_39 fX9_165 (by exact hm) (by omega) (by rfl) ?_
  rw [h17]
  refine g_istore_n dX9_repeatCommand_42 rfl (by exact Nat.le_of_ble_eq_true rfl) ?_
  refine g_aload_n dX9_repeatCommand_43 rfl (by rfl) ?_
  refine g_dup dX9_repeatCommand_44 (by rfl) ?_
  refine g_getf dX9_repeatCommand_45 fX9_214 (by exact hm) (by omega) (by rfl) ?_
  rw [h15]
  refine g_iconst 1 dX9_repeatCommand_48 (by rfl) ?_
  refine g_iadd dX9_repeatCommand_49 ?_
  rw [nI_1]
  refine g_putf' dX9_repeatCommand_50 pX9_214 (by exact hm) (by omega) (by exact Nat.le_of_ble_eq_true rfl) (by rfl) (by rfl) (fun h1 e1 => ?_)
  first | have hm_1 := s_up_off e1 (by omega) hm | have hm_1 := s_up_at e1
  first | have hx_1 := s_up_off e1 (by omega) hx | have hx_1 := s_up_at e1
  have qoff : s_off _ h1 m (m + 1) := s_off.rf.up e1 (by omega)
  have hw : m_ss h1 m I0 sn P tm rp tx len (dp + 1) (x_next tx len (x_next tx len S)) := ⟨upd I 15 (nI (dp + 1)), w, hP.fl qoff (s_up_at e1), fun k hk => (upd_ne (by omega)).trans (hfr k hk), (upd_ne (by omega)).trans h21, (upd_ne (by omega)).trans h22, hD, fun z => ⟨upd_at, (upd_ne (by omega)).trans h16, hq, (upd_ne (by omega)).trans h17, htq, (upd_ne (by omega)).trans h18, (upd_ne (by omega)).trans h19, fun y => (upd_ne (by omega)).trans (h20 y)⟩⟩
  have hoff := hoff.w qoff (by omega)
  obtain ⟨I, w, hP, hfr, h21, h22, hD, htk⟩ := id hw
  have hm := hP.1.1
  have hx := hP.2.2.2.2.2.1
  refine g_iconst (nI 0) dX9_repeatCommand_53 (by rfl) ?_
  refine g_istore_n dX9_repeatCommand_54 rfl (by exact Nat.le_of_ble_eq_true rfl) ?_
  have hres : (x_rpF tx len (x_rcF tx len rpt 41 501) S).2 = (x_rpl tx len (x_rcF tx len rpt 41 501) (x_next tx len (x_next tx len S)).2.2.2.1 tms (x_next tx len (x_next tx len S))).2 := by
    unfold x_rpF
    rw [if_neg a1, a3, if_pos h40, et, nI_clamp (by omega)]
  rw [hres]
  exact g_lv (m_rpL hK hn CMD hrw hrk hkc hk4 th hq tms 0 (x_next tx len (x_next tx len S)) _ (by omega) hw hg2 hex rfl hoff) ⟨rfl, rfl, rfl, rfl, trivial⟩

theorem m_rpT {n m len dp : Nat} {I0 sn tm rp tx : Nat → Int32} {P : Nat → Nat → Int32} (hK : m_kx I0 tm tx len) (hn : m + 21 ≤ n) {k kc : Nat} {rpt : x_S → Bool × x_S} (CMD : ∀ (h : s_H) (S : x_S), m_ss h m I0 sn P tm rp tx len (dp + 1) S → S.2.1 = 0 → S.2.2.2.2.2.2 ≤ 100 → s_Mt (TX9_command kc) 0 0 [.ref m] h n (s_rp n (fun v9 h1 => v9 = none ∧ m_ss h1 m I0 sn P tm rp tx len (dp + 1) (x_stp tx len rpt S).2 ∧ m_of h h1 m) s_no)) (hrw : x_wf len rpt) (hrk : x_keeps rpt) (hkc : kc + 1 ≤ k) (hk4 : 4 ≤ k) (hdp : dp < 2) {h h2 : s_H} {S : x_S} {tms : Nat} (hw : m_ss h2 m I0 sn P tm rp tx len dp (x_next tx len (x_next tx len S))) (hg : S.2.1 = 0) (hex : S.2.2.2.2.2.2 ≤ 100) (a1 : ¬ (x_rd tx len S.2.2.2.1 1 20).1 = -1) (a3 : x_num tx len 1 20 S = x_next tx len S) (et : (x_rd tx len S.2.2.2.1 1 20).1 = nI tms) (th : tms ≤ 20) (hoff : m_of h h2 m) {lv : s_V} (l0 : lv 0 = some (.ref m)) (l1 : lv 1 = some (.int (nI tms))) : s_G (TX9_repeatCommand k) (s_rp n (fun v9 h1 => v9 = none ∧ m_ss h1 m I0 sn P tm rp tx len dp (x_rpF tx len (x_rcF tx len rpt 41 501) S).2 ∧ m_of h h1 m) s_no) 25 lv [] h2 n 0 0 := by
  refine g_lv (l := [(0, .ref m), (1, .int (nI tms))]) ?_ ⟨l0, l1, trivial⟩
  have hg2 : (x_next tx len (x_next tx len S)).2.1 = 0 := hg
  obtain ⟨I, w, hP, hfr, h21, h22, hD, htk⟩ := id hw
  have hm := hP.1.1
  obtain ⟨h15, h16, hq, h17, htq, h18, h19, h20⟩ := htk hg2
  refine g_aload_n dX9_repeatCommand_25 rfl (by rfl) ?_
  refine g_getf dX9_repeatCommand_26 fX9_171 (by exact hm) (by omega) (by rfl) ?_
  rw [h19]
  refine g_iconst 5 dX9_repeatCommand_29 (by rfl) ?_
  refine g_icmp_eq (tgt := 38) dX9_repeatCommand_30 (by decide) (fun c_30 => ?_) (fun c_30 => ?_)
  · have h40 : (x_next tx len (x_next tx len S)).2.2.2.2.1 = 40 := m_kd_i.2.2.2.2.1.mp c_30
    first
    | exact m_rp38 hK hn hk4 hw hb hoff rfl rfl
    | exact m_rpT38 hK hn CMD hrw hrk hkc hk4 hw hg hex a1 a3 et th h40 hoff rfl rfl
  · have h40 : ¬ (x_next tx len (x_next tx len S)).2.2.2.2.1 = 40 := fun z => c_30 (m_kd_i.2.2.2.2.1.mpr z)
    refine g_aload_n dX9_repeatCommand_33 rfl (by rfl) ?_
    refine g_iconst 1 dX9_repeatCommand_34 (by rfl) ?_
    refine g_callV_p (c_X9_fail hw hK hn (k := 1) (by decide)) dX9_repeatCommand_35 (mX9_fail) rfl lX9_205 iX9_fail vX9_fail (Nat.le_trans (by decide) hk4) (by omega) (by exact hm) rfl rfl rfl rfl (Nat.le_of_ble_eq_true rfl) (fun v9 h9 z9 => ?_)
    obtain ⟨rfl, hw, qoff⟩ := z9
    have hoff := hoff.trans qoff
    obtain ⟨I, w, hP, hfr, h21, h22, hD, htk⟩ := id hw
    have hm := hP.1.1
    have hx := hP.2.2.2.2.2.1
    rw [m_fl_y hg2] at hw
    have hb : ¬ (x_fail (x_next tx len (x_next tx len S)) 1).2.1 = 0 := show ¬ (1 : Int32) = 0 by decide
    have hres : (x_rpF tx len (x_rcF tx len rpt 41 501) S).2 = x_fail (x_next tx len (x_next tx len S)) 1 := by
      unfold x_rpF
      rw [if_neg a1, a3, if_neg h40]
    rw [hres]
    first
    | exact m_rp38 hK hn hk4 hw hb hoff rfl rfl
    | exact m_rpT38 hK hn CMD hrw hrk hkc hk4 hw hg hex a1 a3 et th h40 hoff rfl rfl

theorem c_repeatL {n m len dp : Nat} {I0 sn tm rp tx : Nat → Int32} {P : Nat → Nat → Int32} (hK : m_kx I0 tm tx len) (hn : m + 21 ≤ n) {k kc : Nat} {rpt : x_S → Bool × x_S} (CMD : ∀ (h : s_H) (S : x_S), m_ss h m I0 sn P tm rp tx len (dp + 1) S → S.2.1 = 0 → S.2.2.2.2.2.2 ≤ 100 → s_Mt (TX9_command kc) 0 0 [.ref m] h n (s_rp n (fun v9 h1 => v9 = none ∧ m_ss h1 m I0 sn P tm rp tx len (dp + 1) (x_stp tx len rpt S).2 ∧ m_of h h1 m) s_no)) (hrw : x_wf len rpt) (hrk : x_keeps rpt) (hkc : kc + 1 ≤ k) (hk4 : 4 ≤ k) (hdp : dp < 2) {h : s_H} {S : x_S} (hw : m_ss h m I0 sn P tm rp tx len dp S) (hg : S.2.1 = 0) (hex : S.2.2.2.2.2.2 ≤ 100) : s_Mt (TX9_repeatCommand k) 0 0 [.ref m] h n (s_rp n (fun v9 h1 => v9 = none ∧ m_ss h1 m I0 sn P tm rp tx len dp (x_rpF tx len (x_rcF tx len rpt 41 501) S).2 ∧ m_of h h1 m) s_no) := by
  obtain ⟨I, w, hP, hfr, h21, h22, hD, htk⟩ := id hw
  have hm := hP.1.1
  have hx := hP.2.2.2.2.2.1
  have hoff : m_of h h m := m_of.rf
  refine s_Mt_of rfl (show plainName "BackupPlannerModel" = true by decide) (by exact Nat.le_of_ble_eq_true rfl) ?_
  refine g_aload_n dX9_repeatCommand_0 rfl (by rfl) ?_
  refine g_getf dX9_repeatCommand_1 fX9_214 (by exact hm) (by omega) (by rfl) ?_
  rw [(htk hg).1]
  refine g_iconst 2 dX9_repeatCommand_4 (by rfl) ?_
  refine g_icmp_ne (tgt := 13) dX9_repeatCommand_5 (by decide) (fun _ => ?_) (fun c_5 => absurd c_5 (fun z => by have := nI_inj (a := dp) (b := 2) (by omega) (by omega) z; omega))
  refine g_aload_n dX9_repeatCommand_13 rfl (by rfl) ?_
  refine g_callV_p (c_advance hw hK hn) dX9_repeatCommand_14 (mX9_advance) rfl lX9_208 iX9_advance vX9_advance (Nat.le_trans (by decide) hk4) (by omega) (by exact hm) rfl rfl rfl rfl (Nat.le_of_ble_eq_true rfl) (fun v9 h9 z9 => ?_)
  obtain ⟨rfl, hw, qoff⟩ := z9
  have hoff := hoff.trans qoff
  obtain ⟨I, w, hP, hfr, h21, h22, hD, htk⟩ := id hw
  have hm := hP.1.1
  have hx := hP.2.2.2.2.2.1
  rw [x_nx_y hg] at hw
  refine g_aload_n dX9_repeatCommand_17 rfl (by rfl) ?_
  refine g_iconst 1 dX9_repeatCommand_18 (by rfl) ?_
  refine g_bipush 20 dX9_repeatCommand_19 (by rfl) ?_
  refine g_callV_p (c_number hw hK hn 1 20) dX9_repeatCommand_21 (mX9_number) rfl lX9_211 iX9_number vX9_number (Nat.le_trans (by decide) hk4) (by omega) (by exact hm) rfl rfl rfl rfl (Nat.le_of_ble_eq_true rfl) (fun v9 h9 z9 => ?_)
  obtain ⟨rfl, hw, qoff⟩ := z9
  have hoff := hoff.trans qoff
  obtain ⟨I, w, hP, hfr, h21, h22, hD, htk⟩ := id hw
  have hm := hP.1.1
  have hx := hP.2.2.2.2.2.1
  refine g_istore_n dX9_repeatCommand_24 rfl (by exact Nat.le_of_ble_eq_true rfl) ?_
  rcases m_num (tx := tx) (len := len) (S := S) (lo := 1) (hi := 20) (by decide) hg with ⟨a1, a2, a3⟩ | ⟨a1, a2, a3, a4⟩
  · rw [a2, x_nx_n a3] at hw
    have hres : (x_rpF tx len (x_rcF tx len rpt 41 501) S).2 = x_num tx len 1 20 S := by
      unfold x_rpF
      rw [if_pos a1]
    rw [hres]
    exact m_rp25 hK hn hk4 hw a3 hoff rfl rfl
  · rw [a2, x_nx_y (S := x_next tx len S) hg] at hw
    rw [a4]
    obtain ⟨tms, et, tl, th⟩ := x_rd_in (tx := tx) (len := len) (q := S.2.2.2.1) (lo := 1) (hi := 20) (by decide) a1 (by decide)
    have et : (x_rd tx len S.2.2.2.1 1 20).1 = nI tms := et
    rw [et]
    exact m_rpT hK hn CMD hrw hrk hkc hk4 hdp hw hg hex a1 a3 et th hoff rfl rfl
