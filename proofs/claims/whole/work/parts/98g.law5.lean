/-! THE LAW: what holds at the head of its loop -/
theorem m_R.off {h h1 : s_H} {m a b : Nat} {π : s_Pl} {t : Int32} (q : m_R h m π t) (z : s_off h h1 a b) (hd : m + 21 ≤ a ∨ b ≤ m) : m_R h1 m π t := by
  obtain ⟨I, w, sn, P, tx, rp, ⟨q1, ⟨pm, q2⟩, q3, ⟨f, q4⟩, ⟨g, q5⟩, q6, q7, q8⟩, r⟩ := q
  exact ⟨I, w, sn, P, tx, rp, ⟨q1.off z (by omega), ⟨pm, q2.off z (by omega)⟩, (z _ (by omega)).trans q3, ⟨f, (z _ (by omega)).trans q4⟩, ⟨g, (z _ (by omega)).trans q5⟩, (z _ (by omega)).trans q6, (z _ (by omega)).trans q7, q8.off z (by omega)⟩, r⟩
theorem m_R.ok {h : s_H} {m : Nat} {π : s_Pl} {t : Int32} (q : m_R h m π t) : ∃ cnt cp, d_ok π.1 cnt cp := by
  obtain ⟨I, w, sn, P, tx, rp, q, -, ⟨c, p, r, -⟩, -⟩ := q
  exact ⟨c, p, r⟩
theorem m_R.l {h : s_H} {m : Nat} {π : s_Pl} {t : Int32} (q : m_R h m π t) : π.2.2.2.2.1 ≤ 10 := by
  obtain ⟨I, w, sn, P, tx, rp, q, -, -, -, r, -⟩ := q
  exact r.1
theorem m_R.len {h : s_H} {m : Nat} {π : s_Pl} {t : Int32} (q : m_R h m π t) : π.2.2.2.2.2.2.1 ≤ 500 := by
  obtain ⟨I, w, sn, P, tx, rp, q, -, -, -, -, r, -⟩ := q
  exact r.1
theorem m_R.hd {h : s_H} {m : Nat} {π : s_Pl} {t : Int32} (q : m_R h m π t) : ∃ I, h m = .inr (7, m_fs m I) := by
  obtain ⟨I, w, sn, P, tx, rp, q, -⟩ := q
  exact ⟨I, q.1.1⟩
def w_r (v : Int32) : Prop := -128 ≤ v.toInt ∧ v.toInt ≤ 127
/-- the bytes of the text are bytes -/
def w_by (π : s_Pl) : Prop := ∀ i, i < π.2.2.2.2.2.2.1 → -128 ≤ (π.2.2.2.2.2.1 i).toInt ∧ (π.2.2.2.2.2.1 i).toInt ≤ 127
theorem w_pby (x : Int32) : w_r (p_by x) := by
  unfold w_r p_by
  rw [Int8.toInt_toInt32]
  have h1 := Int8.le_toInt (x.toInt8.toInt32.toInt8)
  have h2 := Int8.toInt_lt (x.toInt8.toInt32.toInt8)
  constructor <;> omega
theorem w_aby {tx : Nat → Int32} {len : Nat} {x : Int32} (h : ∀ i, i < len → w_r (tx i)) : ∀ k i, i < len + k → w_r (a_by tx len x k i)
  | 0, i, hi => h i hi
  | k + 1, i, hi => by
    show w_r (if i = len + k then p_by (x >>> (a_sh k &&& 31)) else a_by tx len x k i)
    by_cases e : i = len + k
    · rw [if_pos e]
      exact w_pby _
    · rw [if_neg e]
      exact w_aby h k i (by omega)
theorem w_ap {tx : Nat → Int32} {len : Nat} {a c d e f : Int32} (h : ∀ i, i < len → w_r (tx i)) : ∀ i, i < len + 20 → w_r (a_by (a_by (a_by (a_by (a_by tx len a 4) (len + 4) c 4) (len + 8) d 4) (len + 12) e 4) (len + 16) f 4 i) := fun i hi =>
  w_aby (len := len + 16) (fun i hi => w_aby (len := len + 12) (fun i hi => w_aby (len := len + 8) (fun i hi => w_aby (len := len + 4) (fun i hi => w_aby h 4 i (by omega)) 4 i (by omega)) 4 i (by omega)) 4 i (by omega)) 4 i (by omega)
theorem w_lc (x : Int64) : lg_cmp x x = 0 := by
  unfold lg_cmp
  simp
theorem w_f2d {x : UInt32} (h : vf_n32 x) : vf_n64 (FP.f2d x) := by
  have h1 : FP.fIsNaN x = false := Jvm.Free.Fl.noNaN32_no.mp h
  exact Jvm.Free.Fl.noNaN64_no.mpr (by
    rw [FP.f2d_core h1]
    exact FP.Core.f2d_out (Jvm.Free.Fl.noNaN32_no.mp h))
abbrev TL_law : s_T := (yL_law, cL_law, 9, (some .boolean), [], 60)
def w_Φ : s_P := fun o _ _ => o = .inl (some (.int 1))
def w_lv (t : Nat) : List (Nat × Value) := [(0, .ref (s_big + 500)), (1, .ref 0), (2, .ref 93), (3, .ref 114), (4, .int (nI (6 * t)))]
def w_St (h : s_H) (π : s_Pl) : Prop := s_pl h 0 π ∧ (∃ t, m_R h 93 π t) ∧ (∃ f : Nat → Int64, h 114 = .inl (1, 1, .inr (.inl f))) ∧ w_by π
/-- what comes behind a turn -/
def w_K (L : Nat) (xs : Nat → Int32) (t kc ks : Nat) : Prop := ∀ h π, w_St h π → s_GL (s_Os L xs) TL_law w_Φ 2583 (s_lvs (w_lv t)) [] h 115 kc ks
theorem w_K.to {L t kc ks kc' ks' : Nat} {xs : Nat → Int32} (K : w_K L xs t kc ks) {lv : s_V} {h : s_H} {π : s_Pl} (q : w_St h π) (hs : s_all (w_lv t) lv) (hc : kc ≤ kc') (hk : ks ≤ ks') : s_GL (s_Os L xs) TL_law w_Φ 2583 lv [] h 115 kc' ks' := gl_sub (K h π q) (s_all_sub _ _ hs) hc hk
theorem w_op {σ : s_D} {cnt cp : Nat} {τ : s_Tb} (ok : d_ok σ cnt cp) (h0 : ∀ c, c ≤ 100 → τ.1 0 c = 0) : (if d_room σ cnt < 0 then 0 else t_ow (t_build σ 100 τ cnt) σ (d_room σ cnt).toNatClampNeg (t_build σ 100 τ cnt).2.2.2.1 (d_room σ cnt).toNatClampNeg) = (if d_room σ cnt < 0 then 0 else nI (v_op σ cnt)) := by
  by_cases hr : d_room σ cnt < 0
  · rw [if_pos hr, if_pos hr]
  · rw [if_neg hr, if_neg hr, m_cp_op ok h0 hr]
theorem w_gs {σ : s_D} {cnt cp : Nat} (ok : d_ok σ cnt cp) : vf_n64 (FP.f2d (if (r_wt (u_best σ cnt cp)) ≤ 0 then FP.fconst1 else FP.fdiv (FP.i2f (d_tot (d_wt σ) (v_gp σ cnt) cnt)) (FP.i2f (r_wt (u_best σ cnt cp))))) := by
  refine w_f2d ?_
  by_cases h : (r_wt (u_best σ cnt cp)) ≤ 0
  · rw [if_pos h]
    unfold vf_n32
    decide
  · rw [if_neg h]
    exact f_ff _ (fun e => h (by rw [e]; decide))
theorem w_01 (v : Int32) (h : ¬ v = 0) (h1 : v = 0 ∨ v = 1) : v = 1 := h1.elim (fun z => absurd z h) id
theorem w_byA {π : s_Pl} {a c d e f : Int32} (h : w_by π) : w_by (if π.2.2.2.2.2.2.1 + 20 ≤ 500 then (π.1, π.2.1, π.2.2.1, π.2.2.2.1, π.2.2.2.2.1, (a_by (a_by (a_by (a_by (a_by π.2.2.2.2.2.1 π.2.2.2.2.2.2.1 a 4) (π.2.2.2.2.2.2.1 + 4) c 4) (π.2.2.2.2.2.2.1 + 8) d 4) (π.2.2.2.2.2.2.1 + 12) e 4) (π.2.2.2.2.2.2.1 + 16) f 4), π.2.2.2.2.2.2.1 + 20, π.2.2.2.2.2.2.2) else π) := by
  split
  · exact fun i hi => w_ap h i hi
  · exact h
theorem w_byT {π : s_Pl} {x : Int32} (h : w_by π) (hc : ¬ (x < 0 ∨ nI π.2.2.2.2.2.2.1 < x)) (hl : π.2.2.2.2.2.2.1 ≤ 500) : w_by (π.1, π.2.1, π.2.2.1, π.2.2.2.1, π.2.2.2.2.1, π.2.2.2.2.2.1, x.toNatClampNeg, π.2.2.2.2.2.2.2) := fun i hi => h i (by
  have h2 : i < x.toNatClampNeg := hi
  have h3 : x.toNatClampNeg ≤ π.2.2.2.2.2.2.1 := by
    have h4 := Int32.not_lt.mp (fun z => hc (Or.inr z))
    have h5 := Int32.le_iff_toInt_le.mp h4
    have h6 : (nI π.2.2.2.2.2.2.1).toInt = π.2.2.2.2.2.2.1 := nI_toInt (by omega)
    have h7 : x.toNatClampNeg = x.toInt.toNat := rfl
    omega
  omega)
theorem w_byI {π : s_Pl} {P : Prop} [Decidable P] {σ : s_D} (h : w_by π) : w_by (if P then π else (σ, (pl_rem π).2)) := by
  split
  · exact h
  · exact h
theorem w_byR {π : s_Pl} {R9 : Bool × x_S} : w_by (pl_run π R9) := by
  unfold pl_run
  split
  · exact fun i hi => absurd hi (Nat.not_lt_zero _)
  · exact fun i hi => absurd hi (Nat.not_lt_zero _)
