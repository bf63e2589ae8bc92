/-! THE MODEL: reports -/
/-- the report holds L; of the fields only its length has changed -/
def m_rq (h : s_H) (m : Nat) (I w sn : Nat → Int32) (P : Nat → Nat → Int32) (tx : Nat → Int32) (L : List Int32) : Prop :=
  ∃ rp I1 : Nat → Int32, m_pl h m I1 w sn P tx rp ∧ (∀ k, k ≠ 11 → I1 k = I k) ∧ I1 11 = nI L.length ∧ ∀ j, j < L.length → rp j = L.getD j 0

theorem c_X9_say {h : s_H} {n m : Nat} {I w sn tx : Nat → Int32} {P : Nat → Nat → Int32} {L : List Int32} (hQ : m_rq h m I w sn P tx L) (hn : m + 21 ≤ n) (hl : L.length < 1300) (x : Int32) : s_Mt TX9_say 0 0 [.ref m, .int x] h n (s_rp n (fun v9 h1 => v9 = none ∧ m_rq h1 m I w sn P tx (L ++ [p_by x]) ∧ s_off h h1 m (m + 21)) s_no) := by
  obtain ⟨rp, I1, hP, hIk, hI11, hrl⟩ := hQ
  have hm := hP.1.1
  have hrp := hP.2.2.2.2.2.2.1
  refine s_Mt_of rfl (by decide) (by exact Nat.le_of_ble_eq_true rfl) ?_
  refine g_aload_n dX9_say_0 rfl (by rfl) ?_
  refine g_getf dX9_say_1 fX9_30 (by exact hm) (by omega) (by rfl) ?_
  refine g_aload_n dX9_say_4 rfl (by rfl) ?_
  refine g_getf dX9_say_5 fX9_312 (by exact hm) (by omega) (by rfl) ?_
  rw [hI11]
  refine g_iload_n dX9_say_8 rfl (by rfl) ?_
  refine g_i2b dX9_say_9 ?_
  refine g_bast' dX9_say_10 (by exact hrp) (by omega) (by rfl) (by omega) (by omega) (fun h1 e1 => ?_)
  first | have hm_1 := s_up_off e1 (by omega) hm | have hm_1 := s_up_at e1
  first | have hrp_1 := s_up_off e1 (by omega) hrp | have hrp_1 := s_up_at e1
  refine g_aload_n dX9_say_11 rfl (by rfl) ?_
  refine g_dup dX9_say_12 (by rfl) ?_
  refine g_getf dX9_say_13 fX9_312 (by exact hm_1) (by omega) (by rfl) ?_
  rw [hI11]
  refine g_iconst 1 dX9_say_16 (by rfl) ?_
  refine g_iadd dX9_say_17 ?_
  rw [nI_1]
  refine g_putf' dX9_say_18 pX9_312 (by exact hm_1) (by omega) (by exact Nat.le_of_ble_eq_true rfl) (by rfl) (by rfl) (fun h2 e2 => ?_)
  first | have hm_2 := s_up_off e2 (by omega) hm_1 | have hm_2 := s_up_at e2
  first | have hrp_2 := s_up_off e2 (by omega) hrp_1 | have hrp_2 := s_up_at e2
  refine g_vreturn dX9_say_21 rfl ?_
  have qoff : s_off h h2 m (m + 21) := (((s_off.rf (a := m) (b := (m + 21))).up e1 (by omega)).up e2 (by omega))
  have qoff1 : s_off h h1 (m + 17) (m + 18) := s_off.rf.up e1 (by omega)
  have qoff2 : s_off h1 h2 m (m + 1) := s_off.rf.up e2 (by omega)
  have hP1 := hP.rp qoff1 (s_up_at e1)
  have hP2 := hP1.fl (I1 := upd I1 11 (nI (L.length + 1))) qoff2 hm_2
  refine ⟨rfl, rfl, ⟨_, _, hP2, fun k hk => (upd_ne hk).trans (hIk k hk), by rw [upd_at, List.length_append]; rfl, fun j hj => ?_⟩, qoff⟩
  rw [List.length_append] at hj
  change j < L.length + 1 at hj
  show (if j = L.length then _ else rp j) = _
  by_cases e : j = L.length
  · rw [if_pos e, e, List.getD_eq_getElem?_getD, List.getElem?_append_right (Nat.le_refl _), Nat.sub_self]
    rfl
  · rw [if_neg e, hrl j (by omega), List.getD_eq_getElem?_getD, List.getD_eq_getElem?_getD, List.getElem?_append_left (by omega)]

theorem m_rq.hm {h : s_H} {m : Nat} {I w sn tx : Nat → Int32} {P : Nat → Nat → Int32} {L : List Int32} (q : m_rq h m I w sn P tx L) : ∃ J, m_at h m J w := q.elim fun rp q => q.elim fun J q => ⟨J, q.1.1⟩
theorem p_dg_1 (v k : Nat) (h : 1 ≤ k) : 1 ≤ (p_dg v k).length := by
  induction k with
  | zero => omega
  | succ k ih =>
    by_cases e : k = 0
    · subst e
      rw [p_dg_y (Or.inr rfl)]
      simp
    · unfold p_dg
      have := ih (by omega)
      rw [List.length_append]
      omega
theorem nI_div {a b : Nat} (ha : a < 2147483648) (hb : b < 2147483648) (h0 : 0 < b) : nI a / nI b = nI (a / b) := by
  have h1 := Nat.div_le_self a b
  apply Int32.toInt_inj.mp
  rw [Int32.toInt_div, nI_ti ha, nI_ti hb, nI_ti (by omega)]
  have e : ((a : Int).tdiv (b : Int)) = ((a / b : Nat) : Int) := by
    rw [Int.tdiv_eq_ediv_of_nonneg (by omega)]
    exact (Int.natCast_ediv a b).symm
  have e2 : ((a / b : Nat) : Int).bmod (2 ^ 32) = ((a / b : Nat) : Int) := by
    generalize a / b = q at *
    exact Int.bmod_eq_of_le (by omega) (by omega)
  exact (congrArg (fun z => Int.bmod z (2 ^ 32)) e).trans e2

theorem c_X9_sayNumber {h : s_H} {n m : Nat} {I w sn tx : Nat → Int32} {P : Nat → Nat → Int32} {L : List Int32} (hQ : m_rq h m I w sn P tx L) (hn : m + 21 ≤ n) {v : Nat} (hl : L.length + 7 ≤ 1300) (hv : v < 10000000) : s_Mt TX9_sayNumber 0 0 [.ref m, .int (nI v)] h n (s_rp n (fun v9 h1 => v9 = none ∧ m_rq h1 m I w sn P tx (L ++ p_dg v 7) ∧ s_off h h1 m (m + 21)) s_no) := by
  obtain ⟨J, hM⟩ := hQ.hm
  have hm := hM.1
  have hv32 : v < 2147483648 := by omega
  have hoff : s_off h h m (m + 21) := s_off.rf
  have loop0 : ∀ (h' : s_H) (L1 : List Int32), L ++ p_dg v 7 = L1 ++ p_dg v 0 → m_rq h' m I w sn P tx L1 → s_off h h' m (m + 21) → s_G TX9_sayNumber (s_rp n (fun v9 h1 => v9 = none ∧ m_rq h1 m I w sn P tx (L ++ p_dg v 7) ∧ s_off h h1 m (m + 21)) s_no) 18 (s_lvs [(0, .ref m), (1, .int (nI v)), (2, .int 0)]) [] h' n 0 0 := by
    intro h' L1 hd hQ hoff
    obtain ⟨J, hM⟩ := hQ.hm
    have hm := hM.1
    refine g_iload_n dX9_sayNumber_18 rfl (by rfl) ?_
    refine g_if_le (tgt := 43) dX9_sayNumber_19 (by decide) (fun _ => ?_) (fun c_19 => absurd (show (0 : Int32) ≤ 0 by decide) c_19)
    refine g_vreturn dX9_sayNumber_43 rfl ?_
    exact ⟨rfl, rfl, by rw [hd, show p_dg v 0 = [] from rfl, List.append_nil]; exact hQ, hoff⟩
  have loop1 : ∀ (k : Nat) (h' : s_H), k < 7 → ∀ L1 : List Int32, L1.length + (k + 1) ≤ L.length + 7 → True → L ++ p_dg v 7 = L1 ++ p_dg v (k + 1) → m_rq h' m I w sn P tx L1 → s_off h h' m (m + 21) → (∀ i, i ≤ k → 10 ^ i ≤ v ∨ i = 0) → s_G TX9_sayNumber (s_rp n (fun v9 h1 => v9 = none ∧ m_rq h1 m I w sn P tx (L ++ p_dg v 7) ∧ s_off h h1 m (m + 21)) s_no) 18 (s_lvs [(0, .ref m), (1, .int (nI v)), (2, .int (nI (10 ^ k)))]) [] h' n 0 0 := by
    intro k
    induction k using Nat.strongRecOn with
    | ind k ih =>
      intro h' hk7 L1 hlen _ hd hQ hoff hge
      have ih := fun j hj h' L1 h1 (h2 : j < 7) h3 h4 h5 h6 => ih j hj h' h2 L1 h1 trivial h3 h4 h5 h6
      obtain ⟨hp1, hu0⟩ := p_pow hk7
      obtain ⟨J, hM⟩ := hQ.hm
      have hm := hM.1
      refine g_iload_n dX9_sayNumber_18 rfl (by rfl) ?_
      refine g_if_le (tgt := 43) dX9_sayNumber_19 (by decide) (fun c_19 => absurd c_19 (fun z => by have := (nI_lei (b := 0) (by omega) (by omega)).mp z; omega)) (fun _ => ?_)
      refine g_aload_n dX9_sayNumber_22 rfl (by rfl) ?_
      refine g_bipush 48 dX9_sayNumber_23 (by rfl) ?_
      refine g_iload_n dX9_sayNumber_25 rfl (by rfl) ?_
      refine g_iload_n dX9_sayNumber_26 rfl (by rfl) ?_
      refine g_idiv dX9_sayNumber_27 (fun z => by have := nI_inj (a := 10 ^ k) (b := 0) (by omega) (by omega) z; omega) ?_
      refine g_bipush 10 dX9_sayNumber_28 (by rfl) ?_
      refine g_irem dX9_sayNumber_30 (by decide) ?_
      refine g_iadd dX9_sayNumber_31 ?_
      rw [p_dig hv32 (by omega) hu0]
      refine g_callV_p (c_X9_say hQ hn (by omega) _) dX9_sayNumber_32 (mX9_say) rfl lX9_315 iX9_say vX9_say (by decide) (by omega) (by exact hm) rfl rfl rfl rfl (Nat.le_of_ble_eq_true rfl) (fun v9 h9 z9 => ?_)
      obtain ⟨rfl, hQ, qoff⟩ := z9
      have hoff := hoff.trans qoff
      obtain ⟨J, hM⟩ := hQ.hm
      have hm := hM.1
      have hw := hM.2
      rw [p_by_small (by have := Nat.mod_lt (v / 10 ^ k) (show 0 < 10 by omega); omega)] at hQ
      refine g_iload_n dX9_sayNumber_35 rfl (by rfl) ?_
      refine g_bipush 10 dX9_sayNumber_36 (by rfl) ?_
      refine g_idiv dX9_sayNumber_38 (by decide) ?_
      by_cases hk0 : k = 0
      · subst hk0
        rw [show nI (10 ^ 0) / 10 = 0 from by decide]
        refine g_istore_n dX9_sayNumber_39 rfl (by decide) ?_
        refine g_goto (tgt := 18) dX9_sayNumber_40 (by decide) ?_
        exact g_lv (loop0 _ _ (by rw [hd, p_dg_y (Or.inr rfl), List.append_assoc]) hQ hoff) ⟨rfl, rfl, rfl, trivial⟩
      · obtain ⟨j, rfl⟩ : ∃ j, k = j + 1 := ⟨k - 1, by omega⟩
        rw [p_pow_div (k := j) (by omega)]
        refine g_istore_n dX9_sayNumber_39 rfl (by decide) ?_
        refine g_goto (tgt := 18) dX9_sayNumber_40 (by decide) ?_
        exact g_lv (ih j (by omega) _ _ (by have := p_dg_len v (j + 1); rw [List.length_append]; simp; omega) (by omega) (by rw [hd, p_dg_y (hge (j + 1) (Nat.le_refl _)), ← List.append_assoc]) hQ hoff (fun i hi => hge i (by omega))) ⟨rfl, rfl, rfl, trivial⟩
  have loop : ∀ (d k : Nat), k + d = 7 → k < 7 → (10 ^ k ≤ v ∨ k = 0) → s_G TX9_sayNumber (s_rp n (fun v9 h1 => v9 = none ∧ m_rq h1 m I w sn P tx (L ++ p_dg v 7) ∧ s_off h h1 m (m + 21)) s_no) 2 (s_lvs [(0, .ref m), (1, .int (nI v)), (2, .int (nI (10 ^ k)))]) [] h n 0 0 := by
    intro d
    induction d with
    | zero =>
      intro k hk hk7 hv0
      omega
    | succ d ih =>
      intro k hk hk7 hv0
      obtain ⟨hp1, hu0⟩ := p_pow hk7
      refine g_iload_n dX9_sayNumber_2 rfl (by rfl) ?_
      refine g_iload_n dX9_sayNumber_3 rfl (by rfl) ?_
      refine g_idiv dX9_sayNumber_4 (fun z => by have := nI_inj (a := 10 ^ k) (b := 0) (by omega) (by omega) z; omega) ?_
      rw [nI_div hv32 (by omega) hu0]
      refine g_bipush 9 dX9_sayNumber_5 (by rfl) ?_
      refine g_icmp_le (tgt := 18) dX9_sayNumber_7 (by decide) (fun c_7 => ?_) (fun c_7 => ?_)
      · have hlt : v / 10 ^ k ≤ 9 := (nI_lei (b := 9) (by have := Nat.div_le_self v (10 ^ k); omega) (by omega)).mp c_7
        have hlt2 : v < 10 ^ (k + 1) := by
          rw [Nat.pow_succ]
          have := Nat.div_add_mod v (10 ^ k)
          have h2 := Nat.mod_lt v hu0
          have h3 : 10 ^ k * (v / 10 ^ k) ≤ 10 ^ k * 9 := Nat.mul_le_mul_left _ hlt
          omega
        have hcut : p_dg v 7 = p_dg v (k + 1) := by
          have := p_dg_cut hlt2 (by omega) (6 - k)
          rw [show k + 1 + (6 - k) = 7 by omega] at this
          exact this
        exact g_lv (loop1 k _ (by omega) L (by omega) trivial (by rw [hcut]) hQ hoff (fun i hi => (Nat.eq_zero_or_pos i).elim Or.inr (fun z => Or.inl (Nat.le_trans (Nat.pow_le_pow_right (by omega) hi) (hv0.resolve_right (by omega)))))) ⟨rfl, rfl, rfl, trivial⟩
      · have hgt : 10 ≤ v / 10 ^ k := by
          have : ¬ v / 10 ^ k ≤ 9 := fun z => c_7 (nI_le (b := 9) z (by omega))
          exact Nat.lt_of_not_le this
        have hge2 : 10 ^ (k + 1) ≤ v := by
          rw [Nat.pow_succ, Nat.mul_comm]
          exact (Nat.le_div_iff_mul_le hu0).mp hgt
        have hk6 : k + 1 < 7 := Nat.lt_of_not_le fun z => by
          have := Nat.pow_le_pow_right (show 0 < 10 by omega) z
          omega
        refine g_iload_n dX9_sayNumber_10 rfl (by rfl) ?_
        refine g_bipush 10 dX9_sayNumber_11 (by rfl) ?_
        refine g_imul dX9_sayNumber_13 ?_
        rw [show (10 : Int32) = nI 10 from rfl, nI_mul, ← Nat.pow_succ]
        refine g_istore_n dX9_sayNumber_14 rfl (by decide) ?_
        refine g_goto (tgt := 2) dX9_sayNumber_15 (by decide) ?_
        exact g_lv (ih (k + 1) (by omega) hk6 (Or.inl hge2)) ⟨rfl, rfl, rfl, trivial⟩
  refine s_Mt_of rfl (by decide) (by exact Nat.le_of_ble_eq_true rfl) ?_
  refine g_iconst 1 dX9_sayNumber_0 (by rfl) ?_
  refine g_istore_n dX9_sayNumber_1 rfl (by decide) ?_
  exact g_lv (loop 7 0 (by omega) (by omega) (Or.inr rfl)) ⟨rfl, rfl, rfl, trivial⟩

def m_si (σ : s_D) (i : Nat) (pl : Int32) (L : List Int32) : List Int32 := if pl = -1 ∨ s_bit pl (nI i) = 0 then w_s (σ.1 3 i) (L ++ p_dg (k_s σ i) 7 ++ [58] ++ p_dg (k_w σ i) 7) else w_s (σ.1 3 i) (L ++ p_dg (k_s σ i) 7 ++ [58] ++ p_dg (k_w σ i) 7) ++ [42]
theorem m_si_y {σ : s_D} {i : Nat} {pl : Int32} {L : List Int32} (h : pl = -1 ∨ s_bit pl (nI i) = 0) : m_si σ i pl L = w_s (σ.1 3 i) (L ++ p_dg (k_s σ i) 7 ++ [58] ++ p_dg (k_w σ i) 7) := if_pos h
theorem m_si_n {σ : s_D} {i : Nat} {pl : Int32} {L : List Int32} (h : ¬ (pl = -1 ∨ s_bit pl (nI i) = 0)) : m_si σ i pl L = w_s (σ.1 3 i) (L ++ p_dg (k_s σ i) 7 ++ [58] ++ p_dg (k_w σ i) 7) ++ [42] := if_neg h

theorem m_si2 {i : Nat} {h : s_H} {n m : Nat} {I w sn tx : Nat → Int32} {P : Nat → Nat → Int32} {L : List Int32} (hQ : m_rq h m I w sn P tx (w_s ((m_D w).1 3 i) (L ++ p_dg (k_s (m_D w) i) 7 ++ [58] ++ p_dg (k_w (m_D w) i) 7))) (hn : m + 21 ≤ n) {h0 : s_H} {cnt cp : Nat} {pl : Int32} (ok : d_ok (m_D w) cnt cp) (hi : i < cnt) (hl : L.length ≤ 1200) (hoff : s_off h0 h m (m + 21)) {lv : s_V} (h0l : lv 0 = some (.ref m)) (h1l : lv 1 = some (.int (nI i))) (h2l : lv 2 = some (.int pl)) : s_G TX9_sayItem (s_rp n (fun v9 h1 => v9 = none ∧ m_rq h1 m I w sn P tx (m_si (m_D w) i pl L) ∧ s_off h0 h1 m (m + 21)) s_no) 54 lv [] h n 0 0 := by
  obtain ⟨J, hM⟩ := hQ.hm
  have hm := hM.1
  have hw := hM.2
  have hl1 := p_dg_len (k_s (m_D w) i) 7
  have hl2 := p_dg_len (k_w (m_D w) i) 7
  have hl3 := w_s_len ((m_D w).1 3 i) (L ++ p_dg (k_s (m_D w) i) 7 ++ [58] ++ p_dg (k_w (m_D w) i) 7)
  have hl4 : (L ++ p_dg (k_s (m_D w) i) 7 ++ [58] ++ p_dg (k_w (m_D w) i) 7).length ≤ L.length + 15 := by simp only [List.length_append, List.length_singleton]; omega
  refine g_lv (l := [(0, .ref m), (1, .int (nI i)), (2, .int pl)]) ?_ ⟨h0l, h1l, h2l, trivial⟩
  refine g_iload_n dX9_sayItem_54 rfl (by rfl) ?_
  refine g_iconst (-1) dX9_sayItem_55 (by rfl) ?_
  refine g_icmp_eq (tgt := 73) dX9_sayItem_56 (by decide) (fun c_56 => ?_) (fun c_56 => ?_)
  · have hz : pl = -1 ∨ s_bit pl (nI i) = 0 := Or.inl c_56
    refine g_vreturn dX9_sayItem_73 rfl ?_
    first | (refine ⟨rfl, rfl, ?_, hoff⟩; (rw [m_si_y hz]; exact hQ)) | (refine ⟨rfl, rfl, ?_, hoff⟩; (rw [m_si_n hnz]; exact hQ))
  · refine g_iload_n dX9_sayItem_59 rfl (by rfl) ?_
    refine g_iload_n dX9_sayItem_60 rfl (by rfl) ?_
    refine g_callS_e (c_X9_has _ _) dX9_sayItem_61 (mX9_has) rfl lX9_80 sX9_has (by decide) rfl rfl (Nat.le_of_ble_eq_true rfl) ?_
    refine g_if_eq (tgt := 73) dX9_sayItem_64 (by decide) (fun c_64 => ?_) (fun c_64 => ?_)
    · have hz : pl = -1 ∨ s_bit pl (nI i) = 0 := Or.inr (Classical.byContradiction fun z => by rw [if_neg z] at c_64; exact absurd c_64 (by decide))
      refine g_vreturn dX9_sayItem_73 rfl ?_
      first | (refine ⟨rfl, rfl, ?_, hoff⟩; (rw [m_si_y hz]; exact hQ)) | (refine ⟨rfl, rfl, ?_, hoff⟩; (rw [m_si_n hnz]; exact hQ))
    · have hnz : ¬ (pl = -1 ∨ s_bit pl (nI i) = 0) := fun z => z.elim c_56 (fun z => c_64 (by rw [if_pos z]))
      refine g_aload_n dX9_sayItem_67 rfl (by rfl) ?_
      refine g_bipush 42 dX9_sayItem_68 (by rfl) ?_
      refine g_callV_p (c_X9_say hQ hn (by omega) 42) dX9_sayItem_70 (mX9_say) rfl lX9_315 iX9_say vX9_say (by decide) (by omega) (by exact hm) rfl rfl rfl rfl (Nat.le_of_ble_eq_true rfl) (fun v9 h9 z9 => ?_)
      obtain ⟨rfl, hQ, qoff⟩ := z9
      have hoff := hoff.trans qoff
      obtain ⟨J, hM⟩ := hQ.hm
      have hm := hM.1
      have hw := hM.2
      rw [show p_by 42 = 42 from by decide] at hQ
      refine g_vreturn dX9_sayItem_73 rfl ?_
      first | (refine ⟨rfl, rfl, ?_, hoff⟩; (rw [m_si_y hz]; exact hQ)) | (refine ⟨rfl, rfl, ?_, hoff⟩; (rw [m_si_n hnz]; exact hQ))

theorem c_X9_sayItem {h : s_H} {n m : Nat} {I w sn tx : Nat → Int32} {P : Nat → Nat → Int32} {L : List Int32} (hQ : m_rq h m I w sn P tx L) (hn : m + 21 ≤ n) {cnt cp i : Nat} {pl : Int32} (ok : d_ok (m_D w) cnt cp) (hi : i < cnt) (hl : L.length ≤ 1200) : s_Mt TX9_sayItem 0 0 [.ref m, .int (nI i), .int pl] h n (s_rp n (fun v9 h1 => v9 = none ∧ m_rq h1 m I w sn P tx (m_si (m_D w) i pl L) ∧ s_off h h1 m (m + 21)) s_no) := by
  obtain ⟨J, hM⟩ := hQ.hm
  have hm := hM.1
  have hw := hM.2
  have h14 := ok.2.1
  have hoff : s_off h h m (m + 21) := s_off.rf
  obtain ⟨s1, s2, s3, s4, s5⟩ := k_it ok hi
  refine s_Mt_of rfl (by decide) (by exact Nat.le_of_ble_eq_true rfl) ?_
  refine g_aload_n dX9_sayItem_0 rfl (by rfl) ?_
  refine g_aload_n dX9_sayItem_1 rfl (by rfl) ?_
  refine g_iload_n dX9_sayItem_2 rfl (by rfl) ?_
  refine g_iconst (nI 0) dX9_sayItem_3 (by rfl) ?_
  refine g_callV_e (c_X9_of hM hn i 0 (by omega)) dX9_sayItem_4 (mX9_of) rfl lX9_73 iX9_of vX9_of (by decide) (by omega) (by exact hm) rfl rfl rfl rfl (Nat.le_of_ble_eq_true rfl) ?_
  rw [show (m_D w).1 0 i = nI (k_s (m_D w) i) from s1]
  refine g_callV_p (c_X9_sayNumber hQ hn (v := k_s (m_D w) i) (by omega) (by omega)) dX9_sayItem_7 (mX9_sayNumber) rfl lX9_318 iX9_sayNumber vX9_sayNumber (by decide) (by omega) (by exact hm) rfl rfl rfl rfl (Nat.le_of_ble_eq_true rfl) (fun v9 h9 z9 => ?_)
  obtain ⟨rfl, hQ, qoff⟩ := z9
  have hoff := hoff.trans qoff
  obtain ⟨J, hM⟩ := hQ.hm
  have hm := hM.1
  have hw := hM.2
  have hl9 : (L ++ p_dg (k_s (m_D w) i) 7).length ≤ L.length + 7 := by have := p_dg_len (k_s (m_D w) i) 7; rw [List.length_append]; omega
  refine g_aload_n dX9_sayItem_10 rfl (by rfl) ?_
  refine g_bipush 58 dX9_sayItem_11 (by rfl) ?_
  refine g_callV_p (c_X9_say hQ hn (by omega) 58) dX9_sayItem_13 (mX9_say) rfl lX9_315 iX9_say vX9_say (by decide) (by omega) (by exact hm) rfl rfl rfl rfl (Nat.le_of_ble_eq_true rfl) (fun v9 h9 z9 => ?_)
  obtain ⟨rfl, hQ, qoff⟩ := z9
  have hoff := hoff.trans qoff
  obtain ⟨J, hM⟩ := hQ.hm
  have hm := hM.1
  have hw := hM.2
  rw [show p_by 58 = 58 from by decide] at hQ
  have hl9 : (L ++ p_dg (k_s (m_D w) i) 7 ++ [58]).length ≤ L.length + 8 := by rw [List.length_append]; simp only [List.length_singleton]; omega
  refine g_aload_n dX9_sayItem_16 rfl (by rfl) ?_
  refine g_aload_n dX9_sayItem_17 rfl (by rfl) ?_
  refine g_iload_n dX9_sayItem_18 rfl (by rfl) ?_
  refine g_callV_e (c_X9_weightOf hM hn i (by omega)) dX9_sayItem_19 (mX9_weightOf) rfl lX9_83 iX9_weightOf vX9_weightOf (by decide) (by omega) (by exact hm) rfl rfl rfl rfl (Nat.le_of_ble_eq_true rfl) ?_
  rw [show d_wt (m_D w) i = nI (k_w (m_D w) i) from s4]
  refine g_callV_p (c_X9_sayNumber hQ hn (v := k_w (m_D w) i) (by omega) (by omega)) dX9_sayItem_22 (mX9_sayNumber) rfl lX9_318 iX9_sayNumber vX9_sayNumber (by decide) (by omega) (by exact hm) rfl rfl rfl rfl (Nat.le_of_ble_eq_true rfl) (fun v9 h9 z9 => ?_)
  obtain ⟨rfl, hQ, qoff⟩ := z9
  have hoff := hoff.trans qoff
  obtain ⟨J, hM⟩ := hQ.hm
  have hm := hM.1
  have hw := hM.2
  have hl9 : (L ++ p_dg (k_s (m_D w) i) 7 ++ [58] ++ p_dg (k_w (m_D w) i) 7).length ≤ L.length + 15 := by have := p_dg_len (k_w (m_D w) i) 7; rw [List.length_append]; omega
  refine g_aload_n dX9_sayItem_25 rfl (by rfl) ?_
  refine g_iload_n dX9_sayItem_26 rfl (by rfl) ?_
  refine g_iconst 0 dX9_sayItem_27 (by rfl) ?_
  refine g_callV_e (c_X9_is hM hn i (by omega) 0) dX9_sayItem_28 (mX9_is) rfl lX9_76 iX9_is vX9_is (by decide) (by omega) (by exact hm) rfl rfl rfl rfl (Nat.le_of_ble_eq_true rfl) ?_
  refine g_if_ne (tgt := 54) dX9_sayItem_31 (by decide) (fun c_31 => ?_) (fun c_31 => ?_)
  · have h30 : (m_D w).1 3 i = 0 := Classical.byContradiction fun z => c_31 (by rw [if_neg z])
    have ews : m_rq h9 m I w sn P tx (w_s ((m_D w).1 3 i) (L ++ p_dg (k_s (m_D w) i) 7 ++ [58] ++ p_dg (k_w (m_D w) i) 7)) := by
      unfold w_s
      first
      | (rw [if_neg (by rw [h30]; decide), if_neg (by rw [h30]; decide)]; exact hQ)
      | (rw [if_pos h31]; rw [show p_by 33 = 33 from by decide] at hQ; exact hQ)
      | (rw [if_neg h31n, if_pos h32]; rw [show p_by 45 = 45 from by decide] at hQ; exact hQ)
    have hQ := ews
    exact m_si2 hQ hn ok hi (by omega) hoff rfl rfl rfl
  · have h3n : ¬ (m_D w).1 3 i = 0 := fun z => by rw [if_pos z] at c_31; exact absurd c_31 (by decide)
    refine g_aload_n dX9_sayItem_34 rfl (by rfl) ?_
    refine g_aload_n dX9_sayItem_35 rfl (by rfl) ?_
    refine g_iload_n dX9_sayItem_36 rfl (by rfl) ?_
    refine g_iconst 1 dX9_sayItem_37 (by rfl) ?_
    refine g_callV_e (c_X9_is hM hn i (by omega) 1) dX9_sayItem_38 (mX9_is) rfl lX9_76 iX9_is vX9_is (by decide) (by omega) (by exact hm) rfl rfl rfl rfl (Nat.le_of_ble_eq_true rfl) ?_
    refine g_if_eq (tgt := 49) dX9_sayItem_41 (by decide) (fun c_41 => ?_) (fun c_41 => ?_)
    · have h31n : ¬ (m_D w).1 3 i = 1 := fun z => by rw [if_pos z] at c_41; exact absurd c_41 (by decide)
      have h32 : (m_D w).1 3 i = 2 := by
        obtain ⟨-, -, -, st, e, hst⟩ := ok.2.2.2.2 i hi
        rw [e] at h3n h31n ⊢
        have a1 : st ≠ 0 := fun z => h3n (by rw [z]; rfl)
        have a2 : st ≠ 1 := fun z => h31n (by rw [z]; rfl)
        obtain rfl : st = 2 := by omega
        rfl
      refine g_bipush 45 dX9_sayItem_49 (by rfl) ?_
      refine g_callV_p (c_X9_say hQ hn (by omega) _) dX9_sayItem_51 (mX9_say) rfl lX9_315 iX9_say vX9_say (by decide) (by omega) (by exact hm) rfl rfl rfl rfl (Nat.le_of_ble_eq_true rfl) (fun v9 h9 z9 => ?_)
      obtain ⟨rfl, hQ, qoff⟩ := z9
      have hoff := hoff.trans qoff
      have ews : m_rq h9 m I w sn P tx (w_s ((m_D w).1 3 i) (L ++ p_dg (k_s (m_D w) i) 7 ++ [58] ++ p_dg (k_w (m_D w) i) 7)) := by
        unfold w_s
        first
        | (rw [if_neg (by rw [h30]; decide), if_neg (by rw [h30]; decide)]; exact hQ)
        | (rw [if_pos h31]; rw [show p_by 33 = 33 from by decide] at hQ; exact hQ)
        | (rw [if_neg h31n, if_pos h32]; rw [show p_by 45 = 45 from by decide] at hQ; exact hQ)
      have hQ := ews
      exact m_si2 hQ hn ok hi (by omega) hoff rfl rfl rfl
    · have h31 : (m_D w).1 3 i = 1 := Classical.byContradiction fun z => c_41 (by rw [if_neg z])
      refine g_bipush 33 dX9_sayItem_44 (by rfl) ?_
      refine g_goto (tgt := 51) dX9_sayItem_46 (by decide) ?_
      refine g_callV_p (c_X9_say hQ hn (by omega) _) dX9_sayItem_51 (mX9_say) rfl lX9_315 iX9_say vX9_say (by decide) (by omega) (by exact hm) rfl rfl rfl rfl (Nat.le_of_ble_eq_true rfl) (fun v9 h9 z9 => ?_)
      obtain ⟨rfl, hQ, qoff⟩ := z9
      have hoff := hoff.trans qoff
      have ews : m_rq h9 m I w sn P tx (w_s ((m_D w).1 3 i) (L ++ p_dg (k_s (m_D w) i) 7 ++ [58] ++ p_dg (k_w (m_D w) i) 7)) := by
        unfold w_s
        first
        | (rw [if_neg (by rw [h30]; decide), if_neg (by rw [h30]; decide)]; exact hQ)
        | (rw [if_pos h31]; rw [show p_by 33 = 33 from by decide] at hQ; exact hQ)
        | (rw [if_neg h31n, if_pos h32]; rw [show p_by 45 = 45 from by decide] at hQ; exact hQ)
      have hQ := ews
      exact m_si2 hQ hn ok hi (by omega) hoff rfl rfl rfl
