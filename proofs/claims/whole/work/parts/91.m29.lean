/-! THE MODEL: runScript, the rest -/
theorem m_pl.bf {h h1 : s_H} {m : Nat} {I w sn tx rp g : Nat → Int32} {P : Nat → Nat → Int32} (q : m_pl h m I w sn P tx rp) (z : s_off h h1 (m + 14) (m + 15)) (e : h1 (m + 14) = .inl (0, 61, .inl g)) : m_pl h1 m I w sn P tx rp := by
  obtain ⟨q1, ⟨pm, q2⟩, q3, -, ⟨f5, q5⟩, q6, q7, q8⟩ := q
  exact ⟨q1.off z (by omega), ⟨pm, q2.kp (fun j a b => z j (by omega))⟩, (z _ (by omega)).trans q3, ⟨g, e⟩, ⟨f5, (z _ (by omega)).trans q5⟩, (z _ (by omega)).trans q6, (z _ (by omega)).trans q7, q8.off z (by omega)⟩
theorem cg_nx {tx : Nat → Int32} {len : Nat} {S T : x_S} (h : S.2 = T.2) : (x_nx tx len S).2 = (x_nx tx len T).2 := by
  obtain ⟨s, S⟩ := S
  obtain ⟨t, T⟩ := T
  cases h
  unfold x_nx
  dsimp only
  split <;> rfl
theorem cg_nu {tx : Nat → Int32} {lo hi : Int32} {S T : x_S} (h : S.2 = T.2) : (m_nu tx lo hi S).2 = (m_nu tx lo hi T).2 := by
  obtain ⟨s, S⟩ := S
  obtain ⟨t, T⟩ := T
  cases h
  unfold m_nu
  dsimp only
  split
  · split
    · split <;> rfl
    · rfl
  · rfl
theorem cg_nv {tx : Nat → Int32} {lo hi : Int32} {S T : x_S} (h : S.2 = T.2) : m_nv tx lo hi S = m_nv tx lo hi T := by
  unfold m_nv
  rw [cg_nu h, h]
theorem cg_en {S T : x_S} (h : S.2 = T.2) : (m_en true S).2 = (m_en true T).2 := by
  obtain ⟨s, S⟩ := S
  obtain ⟨t, T⟩ := T
  cases h
  unfold m_en
  dsimp only
  split
  · split
    · split <;> rfl
    · rfl
  · rfl
def x_dX (tx : Nat → Int32) (len : Nat) (σ : s_D) : x_S := (if x_is tx (x_d1 tx len σ).2.2.2.1 (x_d1 tx len σ).2.2.2.2.1 (x_d1 tx len σ).2.2.2.2.2.1 0 = true then (x_d1 tx len σ) else x_fail (x_d1 tx len σ) 1)
theorem cg_dX {tx : Nat → Int32} {len : Nat} {σ τ : s_D} : (x_dX tx len σ).2 = (x_dX tx len τ).2 := by
  unfold x_dX
  show (if _ then _ else _ : x_S).2 = (if x_is tx (x_d1 tx len σ).2.2.2.1 (x_d1 tx len σ).2.2.2.2.1 (x_d1 tx len σ).2.2.2.2.2.1 0 = true then (x_d1 tx len τ) else x_fail (x_d1 tx len τ) 1).2
  split <;> rfl
theorem x_run_n {tx : Nat → Int32} {len : Nat} {σ : s_D} {Y : x_S} (h : x_dsk tx len σ = (false, Y)) : x_run tx len σ = (false, Y) := by
  unfold x_run
  rw [h]
  exact if_neg Bool.false_ne_true
theorem x_run_y {tx : Nat → Int32} {len : Nat} {σ : s_D} {S : x_S} (h : x_dsk tx len σ = (true, S)) : x_run tx len σ = x_rcF tx len (x_rp0 tx len) 0 501 S := by
  unfold x_run
  rw [h]
  exact if_pos rfl
theorem x_dsk_y {tx : Nat → Int32} {len c : Nat} {σ0 : s_D} {Y0 YP : x_S} (e9 : Y0.2 = YP.2) (hdk : x_dsk tx len σ0 = (true, (x_rst σ0 (nI c), Y0.2))) : x_run tx len σ0 = x_rcF tx len (x_rp0 tx len) 0 501 (x_rst σ0 (nI c), YP.2) ∧ YP.2.2.2.2.2.2 = 0 := by
  rw [e9] at hdk
  have h := (x_dsk_ok (tx := tx) (len := len) (σ := σ0) (by rw [hdk])).2
  rw [hdk] at h
  exact ⟨x_run_y hdk, h⟩
/-- the first command -/
theorem x_dsk_c {tx : Nat → Int32} {len : Nat} {σ : s_D} : (¬ (m_en true (x_nx tx len (m_nu tx 0 100 (x_nx tx len (x_dX tx len σ))))).2.1 = 0 → x_dsk tx len σ = (false, (m_en true (x_nx tx len (m_nu tx 0 100 (x_nx tx len (x_dX tx len σ))))))) ∧ ((m_en true (x_nx tx len (m_nu tx 0 100 (x_nx tx len (x_dX tx len σ))))).2.1 = 0 → ∃ c, c ≤ 100 ∧ m_nv tx 0 100 (x_nx tx len (x_dX tx len σ)) = nI c ∧ x_dsk tx len σ = (true, (x_rst σ (nI c), (m_en true (x_nx tx len (m_nu tx 0 100 (x_nx tx len (x_dX tx len σ))))).2))) := by
  have hg : (x_d1 tx len σ).2.1 = 0 := rfl
  unfold x_dsk
  by_cases hi : x_is tx (x_d1 tx len σ).2.2.2.1 (x_d1 tx len σ).2.2.2.2.1 (x_d1 tx len σ).2.2.2.2.2.1 0 = true
  · rw [show x_dX tx len σ = x_d1 tx len σ from if_pos hi, if_pos hi, x_nx_y hg]
    rcases m_num (tx := tx) (len := len) (S := x_d1 tx len σ) (lo := 0) (hi := 100) (by decide) hg with ⟨a1, a2, a3⟩ | ⟨a1, a2, a3, a4⟩
    · rw [a2, x_nx_n a3, m_en_f a3, if_pos a1]
      exact ⟨fun _ => rfl, fun z => absurd z a3⟩
    · have hg1 : (x_next tx len (x_d1 tx len σ)).2.1 = 0 := rfl
      have hg2 : (x_next tx len (x_next tx len (x_d1 tx len σ))).2.1 = 0 := rfl
      obtain ⟨c, hc, -, hc2⟩ := x_rd_in (tx := tx) (len := len) (q := (x_d1 tx len σ).2.2.2.1) (lo := 0) (hi := 100) (by decide) a1 (by decide)
      have hc : (x_rd tx len (x_d1 tx len σ).2.2.2.1 0 100).1 = nI c := hc
      rw [a2, x_nx_y hg1, if_neg a1, a3, m_en_g hg2]
      split
      · exact ⟨fun z => absurd hg2 z, fun _ => ⟨c, hc2, a4.trans hc, by rw [hc]⟩⟩
      · exact ⟨fun _ => rfl, fun z => absurd z (show ¬ (1 : Int32) = 0 by decide)⟩
  · have hb : ¬ (x_fail (x_d1 tx len σ) 1).2.1 = 0 := show ¬ (1 : Int32) = 0 by decide
    rw [show x_dX tx len σ = x_fail (x_d1 tx len σ) 1 from if_neg hi, if_neg hi, x_nx_n hb, m_nu_f hb, x_nx_n hb, m_en_f hb]
    exact ⟨fun _ => rfl, fun z => absurd z hb⟩

theorem m_run113' {h hA : s_H} {n m len : Nat} {π : s_Pl} {J I00 w sn tm rp g tx : Nat → Int32} {P : Nat → Nat → Int32} {R : Bool × x_S} (hK : m_kx J tm tx len) (hn : m + 21 ≤ n) (hr1 : m_r1 w π) (hrr : m_rr I00 sn P tm rp π) (hJ : ∀ k, k ≠ 0 → k < 15 ∨ 22 < k → J k = I00 k) (hJ0 : J 0 = 0) (hbfA : hA (m + 14) = .inl (0, 61, .inl g)) (hgw : ∀ j, j < 61 → g j = w j) (hoffA : s_off h hA m (m + 21)) {h' : s_H} {X : x_S} (hw : m_ss h' m J sn P tm rp tx len 0 X) (e1 : R.2.2.1 = X.2.1) (e2 : R.2.2.2.1 = X.2.2.1) (hRe : R.1 = true ↔ X.2.1 = 0) (hRX : R.1 = true → R.2.1 = X.1) (hoff : m_of hA h' m) {lv : s_V} (l0 : lv 0 = some (.ref m)) : s_G TX9_runScript (s_rp n (fun v9 h1 => v9 = some (.int (if R.1 = true then R.2.1.2 0 else -1)) ∧ m_R h1 m (pl_run π R) 0 ∧ s_off h h1 m (m + 21)) s_no) 113 lv [] h' n 0 0 := by
  obtain ⟨I, w9, hP, hfr, h21, h22, ⟨c, p, ok, he⟩, htk⟩ := hw
  exact m_run113 hn hP ((hoff _ (Or.inr (Or.inr rfl))).trans hbfA) hgw hr1 hrr (fun k a b => (hfr k b).trans (hJ k a b)) ((hfr 0 (by omega)).trans hJ0) (h21.trans e1.symm) (h22.trans e2.symm) (by rw [e1]; exact hRe) (fun z => ⟨c, p, by rw [hRX z]; exact ⟨ok, he⟩⟩) (hoffA.trans hoff.off) l0
theorem m_run88f {h hA : s_H} {n m len : Nat} {π : s_Pl} {J I00 w sn tm rp g tx : Nat → Int32} {P : Nat → Nat → Int32} {R : Bool × x_S} (hK : m_kx J tm tx len) (hn : m + 21 ≤ n) (hr1 : m_r1 w π) (hrr : m_rr I00 sn P tm rp π) (hJ : ∀ k, k ≠ 0 → k < 15 ∨ 22 < k → J k = I00 k) (hJ0 : J 0 = 0) (hbfA : hA (m + 14) = .inl (0, 61, .inl g)) (hgw : ∀ j, j < 61 → g j = w j) (hoffA : s_off h hA m (m + 21)) {h' : s_H} {X : x_S} (hw : m_ss h' m J sn P tm rp tx len 0 X) (hb : ¬ X.2.1 = 0) (e1 : R.2.2.1 = X.2.1) (e2 : R.2.2.2.1 = X.2.2.1) (hR1 : R.1 = false) (hoff : m_of hA h' m) {lv : s_V} (l0 : lv 0 = some (.ref m)) : s_G TX9_runScript (s_rp n (fun v9 h1 => v9 = some (.int (if R.1 = true then R.2.1.2 0 else -1)) ∧ m_R h1 m (pl_run π R) 0 ∧ s_off h h1 m (m + 21)) s_no) 88 lv [] h' n 0 0 := by
  refine g_lv (l := [(0, .ref m)]) ?_ ⟨l0, trivial⟩
  obtain ⟨I, w9, hP, hfr, h21, h22, hD, htk⟩ := id hw
  have hm := hP.1.1
  refine g_aload_n dX9_runScript_88 rfl (by rfl) ?_
  refine g_callV_e (c_X9_good hw hK hn) dX9_runScript_89 (mX9_good) rfl lX9_198 iX9_good vX9_good (by decide) (by omega) (by exact hm) rfl rfl rfl rfl (Nat.le_of_ble_eq_true rfl) ?_
  rw [if_neg hb]
  refine g_if_eq (tgt := 113) dX9_runScript_92 (by decide) (fun _ => ?_) (fun c_92 => absurd rfl c_92)
  exact m_run113' hK hn hr1 hrr hJ hJ0 hbfA hgw hoffA hw e1 e2 ⟨fun z => by rw [hR1] at z; exact absurd z (by decide), fun z => absurd z hb⟩ (fun z => by rw [hR1] at z; exact absurd z (by decide)) hoff rfl

theorem m_run88 {h hA : s_H} {n m len : Nat} {π : s_Pl} {J I00 w sn tm rp g tx : Nat → Int32} {P : Nat → Nat → Int32} {R : Bool × x_S} (hK : m_kx J tm tx len) (hn : m + 21 ≤ n) (hr1 : m_r1 w π) (hrr : m_rr I00 sn P tm rp π) (hJ : ∀ k, k ≠ 0 → k < 15 ∨ 22 < k → J k = I00 k) (hJ0 : J 0 = 0) (hbfA : hA (m + 14) = .inl (0, 61, .inl g)) (hgw : ∀ j, j < 61 → g j = w j) (hoffA : s_off h hA m (m + 21)) : ∀ (f : Nat) (A : x_S) (h' : s_H), A.2.1 = 0 → A.2.2.2.1 ≤ len → len - A.2.2.2.1 < f → A.2.2.2.2.2.2 ≤ 100 → R = x_rcF tx len (x_rp0 tx len) 0 f A → m_ss h' m J sn P tm rp tx len 0 (x_next tx len A) → m_of hA h' m → s_G TX9_runScript (s_rp n (fun v9 h1 => v9 = some (.int (if R.1 = true then R.2.1.2 0 else -1)) ∧ m_R h1 m (pl_run π R) 0 ∧ s_off h h1 m (m + 21)) s_no) 88 (s_lvs [(0, .ref m)]) [] h' n 0 0 := by
  intro f
  have hrw := x_rp0_wf (tx := tx) hK.2.2
  induction f with
  | zero =>
    intro A h' hgA hqA hfA hexA hrc hw hoff
    omega
  | succ f ih =>
    intro A h' hgA hqA hfA hexA hrc hw hoff
    have hgn : (x_next tx len A).2.1 = 0 := hgA
    have hqn := x_next_q (tx := tx) hqA
    rw [x_rcF_s (S := A) (f := f)] at hrc
    obtain ⟨I, w9, hP, hfr, h21, h22, hD, htk⟩ := id hw
    have hm := hP.1.1
    obtain ⟨h15, h16, hq, h17, htq, h18, h19, h20⟩ := htk hgn
    have hexR : (x_stp tx len (x_rp0 tx len) (x_next tx len A)).2.2.2.2.2.2.2 ≤ 100 := by
      obtain ⟨cnt, cp, ok, -⟩ := hD
      exact x_stp_ok x_rp0_ok (S := x_next tx len A) ok hexA
    refine g_aload_n dX9_runScript_88 rfl (by rfl) ?_
    refine g_callV_e (c_X9_good hw hK hn) dX9_runScript_89 (mX9_good) rfl lX9_198 iX9_good vX9_good (by decide) (by omega) (by exact hm) rfl rfl rfl rfl (Nat.le_of_ble_eq_true rfl) ?_
    rw [if_pos hgn]
    refine g_if_eq (tgt := 113) dX9_runScript_92 (by decide) (fun c_92 => absurd c_92 (by decide)) (fun _ => ?_)
    refine g_aload_n dX9_runScript_95 rfl (by rfl) ?_
    refine g_getf dX9_runScript_96 fX9_171 (by exact hm) (by omega) (by rfl) ?_
    rw [h19]
    refine g_if_eq (tgt := 113) dX9_runScript_99 (by decide) (fun c_99 => ?_) (fun c_99 => ?_)
    · have h0 : (x_next tx len A).2.2.2.2.1 = 0 := m_kd_i.1.mp c_99
      rw [if_pos h0] at hrc
      subst hrc
      exact m_run113' hK hn hr1 hrr hJ hJ0 hbfA hgw hoffA hw rfl rfl ⟨fun _ => hgn, fun _ => rfl⟩ (fun _ => rfl) hoff rfl
    · have h0 : ¬ (x_next tx len A).2.2.2.2.1 = 0 := fun z => c_99 (m_kd_i.1.mpr z)
      rw [if_neg h0] at hrc
      refine g_aload_n dX9_runScript_102 rfl (by rfl) ?_
      refine g_callV_p (c_mc0 hK hn _ _ hw hgn hexA) dX9_runScript_103 (mX9_command _) rfl lX9_230 iX9_command vX9_command (by decide) (by omega) (by exact hm) rfl rfl rfl rfl (Nat.le_of_ble_eq_true rfl) (fun v9 h9 z9 => ?_)
      obtain ⟨rfl, hw, qoff⟩ := z9
      have hoff := hoff.trans qoff
      obtain ⟨I, w, hP, hfr, h21, h22, hD, htk⟩ := id hw
      have hm := hP.1.1
      have hx := hP.2.2.2.2.2.1
      refine g_aload_n dX9_runScript_106 rfl (by rfl) ?_
      refine g_callV_p (c_advance hw hK hn) dX9_runScript_107 (mX9_advance) rfl lX9_208 iX9_advance vX9_advance (by decide) (by omega) (by exact hm) rfl rfl rfl rfl (Nat.le_of_ble_eq_true rfl) (fun v9 h9 z9 => ?_)
      obtain ⟨rfl, hw, qoff⟩ := z9
      have hoff := hoff.trans qoff
      obtain ⟨I, w, hP, hfr, h21, h22, hD, htk⟩ := id hw
      have hm := hP.1.1
      have hx := hP.2.2.2.2.2.1
      refine g_goto (tgt := 88) dX9_runScript_110 (by decide) ?_
      by_cases hR : (x_stp tx len (x_rp0 tx len) (x_next tx len A)).1 = true
      · rw [if_pos hR] at hrc
        obtain ⟨r1, r2, r3⟩ := (x_stp_wf hrw (tx := tx) (x_next tx len A) hgn hqn.2).1 hR
        rw [x_nx_y r1] at hw
        have hgt := x_next_gt hqA (x_stp_w hR)
        exact g_lv (ih (x_stp tx len (x_rp0 tx len) (x_next tx len A)).2 _ r1 r3 (by omega) hexR hrc hw hoff) ⟨rfl, trivial⟩
      · rw [if_neg hR] at hrc
        have hb : ¬ (x_stp tx len (x_rp0 tx len) (x_next tx len A)).2.2.1 = 0 := (x_stp_wf hrw (tx := tx) (x_next tx len A) hgn hqn.2).2 (by revert hR; cases (x_stp tx len (x_rp0 tx len) (x_next tx len A)).1 <;> simp)
        rw [x_nx_n hb] at hw
        subst hrc
        exact g_lv (l := [(0, .ref m)]) (m_run88f (R := (false, (x_stp tx len (x_rp0 tx len) (x_next tx len A)).2)) hK hn hr1 hrr hJ hJ0 hbfA hgw hoffA (lv := s_lvs [(0, .ref m)]) hw hb rfl rfl rfl hoff rfl) ⟨rfl, trivial⟩

theorem m_run88n {h hA : s_H} {n m len : Nat} {π : s_Pl} {J I00 w sn tm rp g tx : Nat → Int32} {P : Nat → Nat → Int32} {R : Bool × x_S} (hK : m_kx J tm tx len) (hn : m + 21 ≤ n) (hr1 : m_r1 w π) (hrr : m_rr I00 sn P tm rp π) (hJ : ∀ k, k ≠ 0 → k < 15 ∨ 22 < k → J k = I00 k) (hJ0 : J 0 = 0) (hbfA : hA (m + 14) = .inl (0, 61, .inl g)) (hgw : ∀ j, j < 61 → g j = w j) (hoffA : s_off h hA m (m + 21)) {h' : s_H} {X Y0 : x_S} (hw : m_ss h' m J sn P tm rp tx len 0 X) (hb : ¬ X.2.1 = 0) (e9 : Y0.2 = X.2) (hR : R = (false, Y0)) (hoff : m_of hA h' m) {lv : s_V} (l0 : lv 0 = some (.ref m)) : s_G TX9_runScript (s_rp n (fun v9 h1 => v9 = some (.int (if R.1 = true then R.2.1.2 0 else -1)) ∧ m_R h1 m (pl_run π R) 0 ∧ s_off h h1 m (m + 21)) s_no) 88 lv [] h' n 0 0 := by
  subst hR
  exact m_run88f hK hn hr1 hrr hJ hJ0 hbfA hgw hoffA (X := X) hw hb (show Y0.2.1 = X.2.1 by rw [e9]) (show Y0.2.2.1 = X.2.2.1 by rw [e9]) rfl hoff l0
theorem m_run88y {h hA : s_H} {n m len : Nat} {π : s_Pl} {J I00 w sn tm rp g tx : Nat → Int32} {P : Nat → Nat → Int32} {R : Bool × x_S} (hK : m_kx J tm tx len) (hn : m + 21 ≤ n) (hr1 : m_r1 w π) (hrr : m_rr I00 sn P tm rp π) (hJ : ∀ k, k ≠ 0 → k < 15 ∨ 22 < k → J k = I00 k) (hJ0 : J 0 = 0) (hbfA : hA (m + 14) = .inl (0, 61, .inl g)) (hgw : ∀ j, j < 61 → g j = w j) (hoffA : s_off h hA m (m + 21)) {h' : s_H} {S : x_S} (hw : m_ss h' m J sn P tm rp tx len 0 (x_next tx len S)) (hg : S.2.1 = 0) (hq : S.2.2.2.1 ≤ len) (hex : S.2.2.2.2.2.2 = 0) (hR : R = x_rcF tx len (x_rp0 tx len) 0 501 S) (hoff : m_of hA h' m) : s_G TX9_runScript (s_rp n (fun v9 h1 => v9 = some (.int (if R.1 = true then R.2.1.2 0 else -1)) ∧ m_R h1 m (pl_run π R) 0 ∧ s_off h h1 m (m + 21)) s_no) 88 (s_lvs [(0, .ref m)]) [] h' n 0 0 :=
  m_run88 hK hn hr1 hrr hJ hJ0 hbfA hgw hoffA 501 S h' hg hq (by have := hK.2.2; omega) (by omega) hR hw hoff

theorem m_run41 {h hA : s_H} {n m len : Nat} {π : s_Pl} {J I00 w sn tm rp g tx : Nat → Int32} {P : Nat → Nat → Int32} (σ0 : s_D) (hK : m_kx J tm tx len) (hn : m + 21 ≤ n) (hr1 : m_r1 w π) (hrr : m_rr I00 sn P tm rp π) (hJ : ∀ k, k ≠ 0 → k < 15 ∨ 22 < k → J k = I00 k) (hJ0 : J 0 = 0) (hbfA : hA (m + 14) = .inl (0, 61, .inl g)) (hgw : ∀ j, j < 61 → g j = w j) (hoffA : s_off h hA m (m + 21)) {cnt cp : Nat} (ok : d_ok π.1 cnt cp) (he : d_eq cnt (m_D w) π.1) (hP : m_pl hA m J w sn P tm rp) (j15 : J 15 = 0) (j16 : J 16 = 0) (j17 : J 17 = 0) (j21 : J 21 = 0) (j22 : J 22 = -1) {lv : s_V} (l0 : lv 0 = some (.ref m)) : s_G TX9_runScript (s_rp n (fun v9 h1 => v9 = some (.int (if (x_run tx len σ0).1 = true then (x_run tx len σ0).2.1.2 0 else -1)) ∧ m_R h1 m (pl_run π (x_run tx len σ0)) 0 ∧ s_off h h1 m (m + 21)) s_no) 41 lv [] hA n 0 0 := by
  refine g_lv (l := [(0, .ref m)]) ?_ ⟨l0, trivial⟩
  have e9 : (m_en true (x_nx tx len (m_nu tx 0 100 (x_nx tx len (x_dX tx len σ0))))).2 = (m_en true (x_nx tx len (m_nu tx 0 100 (x_nx tx len (x_dX tx len π.1))))).2 := cg_en (cg_nx (cg_nu (cg_nx cg_dX)))
  have hoff : m_of hA hA m := m_of.rf
  have hw0 : m_s0 hA m J sn P tm rp len 0 (π.1, 0, -1, 0, 0, 0, 0) := ⟨J, w, hP, fun _ _ => rfl, j21, j22, ⟨cnt, cp, ok, he⟩, j15, j16, Nat.zero_le _, j17⟩
  have hm := hP.1.1
  have tail : ∀ (h' : s_H), m_ss h' m J sn P tm rp tx len 0 (x_dX tx len π.1) → m_of hA h' m → s_G TX9_runScript (s_rp n (fun v9 h1 => v9 = some (.int (if (x_run tx len σ0).1 = true then (x_run tx len σ0).2.1.2 0 else -1)) ∧ m_R h1 m (pl_run π (x_run tx len σ0)) 0 ∧ s_off h h1 m (m + 21)) s_no) 59 (s_lvs [(0, .ref m)]) [] h' n 0 0 := by
    intro h' hw hoff
    obtain ⟨I, w, hP, hfr, h21, h22, hD, htk⟩ := id hw
    have hm := hP.1.1
    refine g_aload_n dX9_runScript_59 rfl (by rfl) ?_
    refine g_callV_p (c_advance hw hK hn) dX9_runScript_60 (mX9_advance) rfl lX9_208 iX9_advance vX9_advance (by decide) (by omega) (by exact hm) rfl rfl rfl rfl (Nat.le_of_ble_eq_true rfl) (fun v9 h9 z9 => ?_)
    obtain ⟨rfl, hw, qoff⟩ := z9
    have hoff := hoff.trans qoff
    obtain ⟨I, w, hP, hfr, h21, h22, hD, htk⟩ := id hw
    have hm := hP.1.1
    have hx := hP.2.2.2.2.2.1
    refine g_aload_n dX9_runScript_63 rfl (by rfl) ?_
    refine g_iconst 0 dX9_runScript_64 (by rfl) ?_
    refine g_bipush 100 dX9_runScript_65 (by rfl) ?_
    refine g_callV_p (c_number hw hK hn 0 100) dX9_runScript_67 (mX9_number) rfl lX9_211 iX9_number vX9_number (by decide) (by omega) (by exact hm) rfl rfl rfl rfl (Nat.le_of_ble_eq_true rfl) (fun v9 h9 z9 => ?_)
    obtain ⟨rfl, hw, qoff⟩ := z9
    generalize hv_v1 : m_nv _ _ _ _ = v1
    have hoff := hoff.trans qoff
    obtain ⟨I, w, hP, hfr, h21, h22, hD, htk⟩ := id hw
    have hm := hP.1.1
    have hx := hP.2.2.2.2.2.1
    refine g_istore_n dX9_runScript_70 rfl (by decide) ?_
    refine g_aload_n dX9_runScript_71 rfl (by rfl) ?_
    refine g_iconst (x_bi true) dX9_runScript_72 (by rfl) ?_
    refine g_callV_p (c_ends hw hK hn true) dX9_runScript_73 (mX9_ends) rfl lX9_226 iX9_ends vX9_ends (by decide) (by omega) (by exact hm) rfl rfl rfl rfl (Nat.le_of_ble_eq_true rfl) (fun v9 h9 z9 => ?_)
    obtain ⟨rfl, hw, qoff⟩ := z9
    have hoff := hoff.trans qoff
    obtain ⟨I, w, hP, hfr, h21, h22, hD, htk⟩ := id hw
    have hm := hP.1.1
    have hx := hP.2.2.2.2.2.1
    generalize (m_en true (x_nx tx len (m_nu tx 0 100 (x_nx tx len (x_dX tx len π.1))))) = yp at hw htk h21 h22 hD e9 ⊢
    refine g_if_eq (tgt := 84) dX9_runScript_76 (by decide) (fun c_76 => ?_) (fun c_76 => ?_)
    · have hno : ¬ yp.2.1 = 0 := fun z => by rw [if_pos z] at c_76; exact absurd c_76 (by decide)
      have hno0 : ¬ (m_en true (x_nx tx len (m_nu tx 0 100 (x_nx tx len (x_dX tx len σ0))))).2.1 = 0 := by rw [e9]; exact hno
      have hRR := x_run_n ((x_dsk_c (tx := tx) (len := len) (σ := σ0)).1 hno0)
      refine g_aload_n dX9_runScript_84 rfl (by rfl) ?_
      refine g_callV_p (c_advance hw hK hn) dX9_runScript_85 (mX9_advance) rfl lX9_208 iX9_advance vX9_advance (by decide) (by omega) (by exact hm) rfl rfl rfl rfl (Nat.le_of_ble_eq_true rfl) (fun v9 h9 z9 => ?_)
      obtain ⟨rfl, hw, qoff⟩ := z9
      have hoff := hoff.trans qoff
      obtain ⟨I, w, hP, hfr, h21, h22, hD, htk⟩ := id hw
      have hm := hP.1.1
      have hx := hP.2.2.2.2.2.1
      first
      | (rw [x_nx_n hno] at hw; exact g_lv (l := [(0, .ref m)]) (m_run88n hK hn hr1 hrr hJ hJ0 hbfA hgw hoffA (lv := s_lvs [(0, .ref m)]) hw hno e9 hRR hoff rfl) ⟨rfl, trivial⟩)
      | (rw [x_nx_y hS1] at hw; exact g_lv (l := [(0, .ref m)]) (m_run88y hK hn hr1 hrr hJ hJ0 hbfA hgw hoffA hw hS1 hS2 hS3 hRS hoff) ⟨rfl, trivial⟩)
    · have hyes : yp.2.1 = 0 := Classical.byContradiction fun z => c_76 (if_neg z)
      obtain ⟨c, hc, hv0, hdk⟩ := (x_dsk_c (tx := tx) (len := len) (σ := σ0)).2 (by rw [e9]; exact hyes)
      have t1 := (cg_nv (tx := tx) (lo := 0) (hi := 100) (cg_nx (tx := tx) (len := len) (cg_dX (tx := tx) (len := len) (σ := σ0) (τ := π.1)))).symm.trans hv0
      have t2 := hv_v1.symm.trans t1
      subst t2
      have hM := hP.1
      have hT := hP.2.2.2.2.2.2.2
      have hq9 := (htk hyes).2.2.1
      obtain ⟨hRS, hex9⟩ := x_dsk_y e9 hdk
      refine g_aload_n dX9_runScript_79 rfl (by rfl) ?_
      refine g_iload_n dX9_runScript_80 rfl (by rfl) ?_
      refine g_callV_p (c_X9_start hM hn (nI c)) dX9_runScript_81 (mX9_start) rfl lX9_47 iX9_start vX9_start (by decide) (by omega) (by exact hm) rfl rfl rfl rfl (Nat.le_of_ble_eq_true rfl) (fun v9 h9 z9 => ?_)
      obtain ⟨rfl, hM, qoff⟩ := z9
      have hT := hT.off qoff (by omega)
      have hP := hP.q (qoff.wide (a' := m) (b' := m + 2) (by omega) (by omega)).l2 hM hT
      have hoff := hoff.w qoff (by omega)
      have hm := hM.1
      have hw : m_ss h9 m J sn P tm rp tx len 0 (x_rst σ0 (nI c), yp.2) := m_ss.act (Y := yp) (σ1 := x_rst σ0 (nI c)) hP hfr h21 h22 htk ⟨x_rst_ok hc, m_D_st⟩
      have hS1 : (x_rst σ0 (nI c), yp.2).2.1 = 0 := hyes
      have hS2 : (x_rst σ0 (nI c), yp.2).2.2.2.1 ≤ len := hq9
      have hS3 : (x_rst σ0 (nI c), yp.2).2.2.2.2.2.2 = 0 := hex9
      refine g_aload_n dX9_runScript_84 rfl (by rfl) ?_
      refine g_callV_p (c_advance hw hK hn) dX9_runScript_85 (mX9_advance) rfl lX9_208 iX9_advance vX9_advance (by decide) (by omega) (by exact hm) rfl rfl rfl rfl (Nat.le_of_ble_eq_true rfl) (fun v9 h9 z9 => ?_)
      obtain ⟨rfl, hw, qoff⟩ := z9
      have hoff := hoff.trans qoff
      obtain ⟨I, w, hP, hfr, h21, h22, hD, htk⟩ := id hw
      have hm := hP.1.1
      have hx := hP.2.2.2.2.2.1
      first
      | (rw [x_nx_n hno] at hw; exact g_lv (l := [(0, .ref m)]) (m_run88n hK hn hr1 hrr hJ hJ0 hbfA hgw hoffA (lv := s_lvs [(0, .ref m)]) hw hno e9 hRR hoff rfl) ⟨rfl, trivial⟩)
      | (rw [x_nx_y hS1] at hw; exact g_lv (l := [(0, .ref m)]) (m_run88y hK hn hr1 hrr hJ hJ0 hbfA hgw hoffA hw hS1 hS2 hS3 hRS hoff) ⟨rfl, trivial⟩)
  refine g_aload_n dX9_runScript_41 rfl (by rfl) ?_
  refine g_callV_p (c_scan hw0 hK hn) dX9_runScript_42 (mX9_scan) rfl lX9_202 iX9_scan vX9_scan (by decide) (by omega) (by exact hm) rfl rfl rfl rfl (Nat.le_of_ble_eq_true rfl) (fun v9 h9 z9 => ?_)
  obtain ⟨rfl, hw, qoff⟩ := z9
  have hoff := hoff.trans qoff
  obtain ⟨I, w, hP, hfr, h21, h22, hD, htk⟩ := id hw
  have hm := hP.1.1
  have hx := hP.2.2.2.2.2.1
  have hw : m_ss h9 m J sn P tm rp tx len 0 (x_d1 tx len π.1) := hw
  refine g_aload_n dX9_runScript_45 rfl (by rfl) ?_
  refine g_kstr (i := 0) (text := "disk") (show ("BackupPlannerModel", 220, "disk", 0) ∈ s_str by decide) dX9_runScript_46 ?_
  refine g_callV_e (c_X9_isWord hw hK hn (i := 0) (by decide)) dX9_runScript_48 (mX9_isWord) rfl lX9_222 iX9_isWord vX9_isWord (by decide) (by omega) (by exact hm) rfl rfl rfl rfl (Nat.le_of_ble_eq_true rfl) ?_
  refine g_if_ne (tgt := 59) dX9_runScript_51 (by decide) (fun c_51 => ?_) (fun c_51 => ?_)
  · have hi : x_is tx (x_d1 tx len π.1).2.2.2.1 (x_d1 tx len π.1).2.2.2.2.1 (x_d1 tx len π.1).2.2.2.2.2.1 0 = true := x_bi_t c_51
    first
    | exact g_lv (tail _ (by rw [show x_dX tx len π.1 = (x_d1 tx len π.1) from if_pos hi]; exact hw) hoff) ⟨rfl, trivial⟩
    | exact g_lv (tail _ (by rw [show x_dX tx len π.1 = x_fail (x_d1 tx len π.1) 1 from if_neg hi]; exact hw) hoff) ⟨rfl, trivial⟩
  · have hi : ¬ x_is tx (x_d1 tx len π.1).2.2.2.1 (x_d1 tx len π.1).2.2.2.2.1 (x_d1 tx len π.1).2.2.2.2.2.1 0 = true := x_bi_f c_51
    refine g_aload_n dX9_runScript_54 rfl (by rfl) ?_
    refine g_iconst 1 dX9_runScript_55 (by rfl) ?_
    refine g_callV_p (c_X9_fail hw hK hn (k := 1) (by decide)) dX9_runScript_56 (mX9_fail) rfl lX9_205 iX9_fail vX9_fail (by decide) (by omega) (by exact hm) rfl rfl rfl rfl (Nat.le_of_ble_eq_true rfl) (fun v9 h9 z9 => ?_)
    obtain ⟨rfl, hw, qoff⟩ := z9
    have hoff := hoff.trans qoff
    obtain ⟨I, w, hP, hfr, h21, h22, hD, htk⟩ := id hw
    have hm := hP.1.1
    have hx := hP.2.2.2.2.2.1
    first
    | exact g_lv (tail _ (by rw [show x_dX tx len π.1 = (x_d1 tx len π.1) from if_pos hi]; exact hw) hoff) ⟨rfl, trivial⟩
    | exact g_lv (tail _ (by rw [show x_dX tx len π.1 = x_fail (x_d1 tx len π.1) 1 from if_neg hi]; exact hw) hoff) ⟨rfl, trivial⟩

theorem c_M_runScript {h : s_H} {n m : Nat} {π : s_Pl} {t : Int32} (hR : m_R h m π t) (hn : m + 21 ≤ n) {cnt cp : Nat} (ok : d_ok π.1 cnt cp) (hby : ∀ i, i < π.2.2.2.2.2.2.1 → -128 ≤ (π.2.2.2.2.2.1 i).toInt ∧ (π.2.2.2.2.2.1 i).toInt ≤ 127) (σ0 : s_D) : s_Mt TX9_runScript 0 0 [.ref m] h n (s_rp n (fun v9 h1 => v9 = some (.int (if (x_run π.2.2.2.2.2.1 π.2.2.2.2.2.2.1 σ0).1 = true then (x_run π.2.2.2.2.2.1 π.2.2.2.2.2.2.1 σ0).2.1.2 0 else -1)) ∧ m_R h1 m (pl_run π (x_run π.2.2.2.2.2.1 π.2.2.2.2.2.2.1 σ0)) 0 ∧ s_off h h1 m (m + 21)) s_no) := by
  obtain ⟨I, w, sn, P, tm, rp, hP, -, hr1, hrr⟩ := hR
  have hm := hP.1.1
  have hw := hP.1.2
  obtain ⟨f0, hbf⟩ := hP.2.2.2.1
  have hoff : s_off h h m (m + 21) := s_off.rf
  have he : d_eq cnt (m_D w) π.1 := by
    obtain ⟨c9, p9, o9, e9⟩ := id hr1
    obtain rfl : c9 = cnt := o9.cn.symm.trans ok.cn
    exact e9
  have hmt : m_tx tm π.2.2.2.2.2.1 π.2.2.2.2.2.2.1 := m_tx_of hrr.2.2.1.2.2 hby
  refine s_Mt_of rfl (by decide) (by exact Nat.le_of_ble_eq_true rfl) ?_
  refine g_aload_n dX9_runScript_0 rfl (by rfl) ?_
  refine g_iconst 0 dX9_runScript_1 (by rfl) ?_
  refine g_putf' dX9_runScript_2 pX9_59 (by exact hm) (by omega) (by exact Nat.le_of_ble_eq_true rfl) (by rfl) (by rfl) (fun h31 e31 => ?_)
  first | have hm_31 := s_up_off e31 (by omega) hm | have hm_31 := s_up_at e31
  first | have hw_31 := s_up_off e31 (by omega) hw | have hw_31 := s_up_at e31
  first | have hbf_31 := s_up_off e31 (by omega) hbf | have hbf_31 := s_up_at e31
  have qoff : s_off _ h31 m (m + 1) := s_off.rf.up e31 (by omega)
  have hP := hP.fl (I1 := upd I 0 0) qoff (s_up_at e31)
  have hbf := s_up_off e31 (by omega) hbf
  have hoff := hoff.trans (qoff.wide (a' := m) (b' := m + 21) (by omega) (by omega))
  have hm := hP.1.1
  have hw := hP.1.2
  refine g_aload_n dX9_runScript_5 rfl (by rfl) ?_
  refine g_getf dX9_runScript_6 fX9_9 (by exact hm) (by omega) (by rfl) ?_
  refine g_aload_n dX9_runScript_9 rfl (by rfl) ?_
  refine g_getf dX9_runScript_10 fX9_21 (by exact hm) (by omega) (by rfl) ?_
  refine g_callS_p (c_X9_copy hw hbf (by omega) (by omega) (by omega)) dX9_runScript_13 (mX9_copy) rfl lX9_65 sX9_copy (by decide) rfl rfl (Nat.le_of_ble_eq_true rfl) (fun v9 h9 z9 => ?_)
  obtain ⟨rfl, ⟨g2, hg2, hgw2⟩, qoff⟩ := z9
  have hP := hP.bf qoff hg2
  have hbf := hg2
  have hoff := hoff.trans (qoff.wide (a' := m) (b' := m + 21) (by omega) (by omega))
  have hm := hP.1.1
  have hw := hP.1.2
  refine g_aload_n dX9_runScript_16 rfl (by rfl) ?_
  refine g_iconst 0 dX9_runScript_17 (by rfl) ?_
  refine g_putf' dX9_runScript_18 pX9_165 (by exact hm) (by omega) (by exact Nat.le_of_ble_eq_true rfl) (by rfl) (by rfl) (fun h32 e32 => ?_)
  first | have hm_32 := s_up_off e32 (by omega) hm | have hm_32 := s_up_at e32
  first | have hw_32 := s_up_off e32 (by omega) hw | have hw_32 := s_up_at e32
  first | have hbf_32 := s_up_off e32 (by omega) hbf | have hbf_32 := s_up_at e32
  have qoff : s_off _ h32 m (m + 1) := s_off.rf.up e32 (by omega)
  have hP := hP.fl (I1 := upd (upd I 0 0) 17 0) qoff (s_up_at e32)
  have hbf := s_up_off e32 (by omega) hbf
  have hoff := hoff.trans (qoff.wide (a' := m) (b' := m + 21) (by omega) (by omega))
  have hm := hP.1.1
  have hw := hP.1.2
  refine g_aload_n dX9_runScript_21 rfl (by rfl) ?_
  refine g_iconst 0 dX9_runScript_22 (by rfl) ?_
  refine g_putf' dX9_runScript_23 pX9_183 (by exact hm) (by omega) (by exact Nat.le_of_ble_eq_true rfl) (by rfl) (by rfl) (fun h33 e33 => ?_)
  first | have hm_33 := s_up_off e33 (by omega) hm | have hm_33 := s_up_at e33
  first | have hw_33 := s_up_off e33 (by omega) hw | have hw_33 := s_up_at e33
  first | have hbf_33 := s_up_off e33 (by omega) hbf | have hbf_33 := s_up_at e33
  have qoff : s_off _ h33 m (m + 1) := s_off.rf.up e33 (by omega)
  have hP := hP.fl (I1 := upd (upd (upd I 0 0) 17 0) 21 0) qoff (s_up_at e33)
  have hbf := s_up_off e33 (by omega) hbf
  have hoff := hoff.trans (qoff.wide (a' := m) (b' := m + 21) (by omega) (by omega))
  have hm := hP.1.1
  have hw := hP.1.2
  refine g_aload_n dX9_runScript_26 rfl (by rfl) ?_
  refine g_iconst (-1) dX9_runScript_27 (by rfl) ?_
  refine g_putf' dX9_runScript_28 pX9_195 (by exact hm) (by omega) (by exact Nat.le_of_ble_eq_true rfl) (by rfl) (by rfl) (fun h34 e34 => ?_)
  first | have hm_34 := s_up_off e34 (by omega) hm | have hm_34 := s_up_at e34
  first | have hw_34 := s_up_off e34 (by omega) hw | have hw_34 := s_up_at e34
  first | have hbf_34 := s_up_off e34 (by omega) hbf | have hbf_34 := s_up_at e34
  have qoff : s_off _ h34 m (m + 1) := s_off.rf.up e34 (by omega)
  have hP := hP.fl (I1 := upd (upd (upd (upd I 0 0) 17 0) 21 0) 22 (-1)) qoff (s_up_at e34)
  have hbf := s_up_off e34 (by omega) hbf
  have hoff := hoff.trans (qoff.wide (a' := m) (b' := m + 21) (by omega) (by omega))
  have hm := hP.1.1
  have hw := hP.1.2
  refine g_aload_n dX9_runScript_31 rfl (by rfl) ?_
  refine g_iconst 0 dX9_runScript_32 (by rfl) ?_
  refine g_putf' dX9_runScript_33 pX9_214 (by exact hm) (by omega) (by exact Nat.le_of_ble_eq_true rfl) (by rfl) (by rfl) (fun h35 e35 => ?_)
  first | have hm_35 := s_up_off e35 (by omega) hm | have hm_35 := s_up_at e35
  first | have hw_35 := s_up_off e35 (by omega) hw | have hw_35 := s_up_at e35
  first | have hbf_35 := s_up_off e35 (by omega) hbf | have hbf_35 := s_up_at e35
  have qoff : s_off _ h35 m (m + 1) := s_off.rf.up e35 (by omega)
  have hP := hP.fl (I1 := upd (upd (upd (upd (upd I 0 0) 17 0) 21 0) 22 (-1)) 15 0) qoff (s_up_at e35)
  have hbf := s_up_off e35 (by omega) hbf
  have hoff := hoff.trans (qoff.wide (a' := m) (b' := m + 21) (by omega) (by omega))
  have hm := hP.1.1
  have hw := hP.1.2
  refine g_aload_n dX9_runScript_36 rfl (by rfl) ?_
  refine g_iconst 0 dX9_runScript_37 (by rfl) ?_
  refine g_putf' dX9_runScript_38 pX9_217 (by exact hm) (by omega) (by exact Nat.le_of_ble_eq_true rfl) (by rfl) (by rfl) (fun h36 e36 => ?_)
  first | have hm_36 := s_up_off e36 (by omega) hm | have hm_36 := s_up_at e36
  first | have hw_36 := s_up_off e36 (by omega) hw | have hw_36 := s_up_at e36
  first | have hbf_36 := s_up_off e36 (by omega) hbf | have hbf_36 := s_up_at e36
  have qoff : s_off _ h36 m (m + 1) := s_off.rf.up e36 (by omega)
  have hP := hP.fl (I1 := upd (upd (upd (upd (upd (upd I 0 0) 17 0) 21 0) 22 (-1)) 15 0) 16 0) qoff (s_up_at e36)
  have hbf := s_up_off e36 (by omega) hbf
  have hoff := hoff.trans (qoff.wide (a' := m) (b' := m + 21) (by omega) (by omega))
  have hm := hP.1.1
  have hw := hP.1.2
  exact m_run41 (I00 := I) (J := (upd (upd (upd (upd (upd (upd I 0 0) 17 0) 21 0) 22 (-1)) 15 0) 16 0)) σ0 ⟨hmt, (show (upd (upd (upd (upd (upd (upd I 0 0) 17 0) 21 0) 22 (-1)) 15 0) 16 0) 9 = nI π.2.2.2.2.2.2.1 from hrr.2.2.1.2.1), hrr.2.2.1.1⟩ hn hr1 hrr (fun k a b => by simp only [upd]; rw [if_neg (by omega), if_neg (by omega), if_neg (by omega), if_neg (by omega), if_neg (by omega), if_neg (by omega)]) rfl hbf hgw2 hoff ok he hP rfl rfl rfl rfl rfl rfl
