/-! an int array into an array of int arrays -/
theorem va_asg_rf (vm : Vm) (c : ClassId) : Vm.assignable vm c c = true := by
  unfold Vm.assignable
  unfold Vm.assignableAux
  simp
theorem g_aastI' {T : s_T} {Φ : s_P} {pc : Nat} {lv : s_V} {st : List Value} {h : s_H} {n kc ks : Nat} {a len j b lb : Nat} {x : Int32} {f : Nat → Option Nat} {g : Nat → Int32} (hd : decode T.2.1 pc = .ok (.aastore, 1)) (ho : h a = .inl (5, len, .inr (.inr (.inr (.inr f))))) (ha : a < n) (hb : b < n) (hob : h b = .inl (0, lb, .inl g)) (hi : x = nI j) (hj : j < len) (hl : len < 2147483648)
    (k : ∀ h1, h1 = s_up h a (.inl (5, len, .inr (.inr (.inr (.inr (va_up f j (some b))))))) → s_G T Φ (pc + 1) lv st h1 n kc ks) : s_G T Φ pc lv (.ref b :: .int x :: .ref a :: st) h n kc ks := by
  intro p l e R s m args below meth c X ad0 n0 A mc ms Qm C ad H locs cells slots ls S
  subst hi
  have hat := s_ws_at (dA := X.2) (ad := ad) (h := h) ha
  have hbt := s_ws_at (dA := X.2) (ad := ad) (h := h) hb
  rw [ho] at hat
  rw [hob] at hbt
  have hK := C.2.2.2.2.2.2.2.2.2.2.1
  have hP := S.2.2.2.1
  have hD := S.2.2.2.2.1
  have hS := S.2.2.2.2.2.1
  have hov : va_AOA .int s := C.2.2.2.2.2.2.2.2.2.2.2.1.1.1 (.arrayOver (.array .int)) (by decide)
  obtain ⟨comp, c9, kA, h1, -, h3, h4, h5⟩ := arrayOverA_spec hov
  have e5 : c9 = X.2 5 := Option.some.inj (h5.symm.trans (hK.2 5 (X.2 5, .array .int) rfl).2)
  have e0 : comp = X.2 0 := Option.some.inj (h1.symm.trans (hK.2 0 (X.2 0, .int) rfl).2)
  subst e5
  subst e0
  obtain ⟨-, kC, hkC, -⟩ := (hK.2 0 (X.2 0, .int) rfl).1 0 (fun _ => .int 0)
  have hin : vp_in (nI j) len := vp_in_nI hj hl
  have h0 : ¬ nI j < 0 := fun q => hin (Or.inl q)
  have hjc : (nI j).toNatClampNeg = j := nI_clamp (Nat.lt_trans hj hl)
  refine W.aast C.1 C.2.1 (hP a _ hat) (fun q h => by cases h) (fun h => by cases h) h3 h4 rfl hkC ⟨h0, by show _ < (arrV _ _ _).slots.size; rw [arrV_size, hjc]; exact hj⟩ (hP b _ hbt) (fun q h => by cases h) hkC (va_asg_rf s.vm (X.2 0)) rfl rfl hd fun H1 ez z oq => ?_
  have hup : va_at X.1 vwCl (ad a, .inl (X.2 5, len, .inr (.inr (.inr (.inr (va_up (fun j => (f j).map ad) j (some (ad b)))))))) H1 := by
    show H1[ad a]? = some (vp_cell _ _)
    rw [ez]
    show some ((vp_cell (X.2 5) (len, .inr (.inr (.inr (.inr (fun j => (f j).map ad)))))).setSlot _ _) = _
    rw [vp_cell_q, vp_cell_q, arrV_store, hjc]
    congr 2
    funext q
    by_cases hq : q = j
    · subst hq
      simp [updV, va_up, va_rf]
    · simp [updV, va_up, hq]
  refine k _ rfl p l e R s m args below meth c X ad0 n0 A mc ms Qm C ad H1 _ cells slots ls (S.heap ha ?_ (hP.set hD hat hup oq) (hD.set hat) (hS.put z oq (hD.2 a _ hat)))
  show (Sum.inl (X.2 5, len, Sum.inr (Sum.inr (Sum.inr (Sum.inr (va_up (fun j => (f j).map ad) j (some (ad b))))))) : va_E) = Sum.inl (X.2 5, len, Sum.inr (Sum.inr (Sum.inr (Sum.inr (fun i => (va_up f j (some b) i).map ad)))))
  congr 7
  funext i
  by_cases hij : i = j <;> simp [va_up, hij]

/-! THE MODEL: the kept states -/
def m_ps (h : s_H) (m : Nat) (pm : Nat → Nat) (P : Nat → Nat → Int32) : Prop :=
  (∃ f : Nat → Option Nat, h (m + 2) = .inl (5, 10, .inr (.inr (.inr (.inr f)))) ∧ ∀ i, i < 10 → f i = some (m + 3 + pm i)) ∧ (∀ i, i < 10 → pm i < 10) ∧ (∀ i j, i < 10 → j < 10 → pm i = pm j → i = j) ∧ ∀ i, i < 10 → h (m + 3 + pm i) = .inl (0, 61, .inl (P i))
theorem m_ps.off {h h1 : s_H} {m a b : Nat} {pm : Nat → Nat} {P : Nat → Nat → Int32} (q : m_ps h m pm P) (z : s_off h h1 a b) (hd : m + 13 ≤ a ∨ b ≤ m + 2) : m_ps h1 m pm P := by
  obtain ⟨⟨f, q1, q2⟩, q3, q4, q5⟩ := q
  exact ⟨⟨f, (z _ (by omega)).trans q1, q2⟩, q3, q4, fun i hi => (z _ (by have := q3 i hi; omega)).trans (q5 i hi)⟩
def m_rmb (P : Nat → Nat → Int32) (l : Nat) (g : Nat → Int32) (P' : Nat → Nat → Int32) : Prop := (∀ j, j < 61 → P' (hp_l l) j = g j) ∧ ∀ i, i < 10 → i ≠ hp_l l → P' i = (if l < 10 then P i else o_rot P i)

theorem m_rtail {h : s_H} {n m s k : Nat} {I1 : Nat → Int32} {pm : Nat → Nat} {P : Nat → Nat → Int32} {g : Nat → Int32} {Φ : s_P} (hm : h m = .inr (7, m_fs m I1)) (hQ : m_ps h m pm P) (hsrc : h s = .inl (0, 61, .inl g)) (hn : m + 21 ≤ n) (hs : s < n) (hsd : s ≠ m ∧ (s < m + 2 ∨ m + 13 ≤ s)) (hI : I1 3 = nI k) (hk : k < 10)
    (hΦ : ∀ h1, s_rp n (fun v9 h1 => v9 = none ∧ h1 m = .inr (7, m_fs m (upd I1 3 (nI (k + 1)))) ∧ (∃ pm P1, m_ps h1 m pm P1 ∧ (∀ j, j < 61 → P1 k j = g j) ∧ ∀ i, i < 10 → i ≠ k → P1 i = P i) ∧ s_off2 h h1 m (m + 1) (m + 2) (m + 13)) s_no (.inl none) h1 n → Φ (.inl none) h1 n) {lv : s_V} (h0 : lv 0 = some (.ref m)) (h1 : lv 1 = some (.ref s)) : s_G TX9_remember Φ 62 lv [] h n 0 0 := by
  obtain ⟨⟨f, qk, hf⟩, hpm, hinj, hds⟩ := hQ
  have hpk := hpm k hk
  refine g_lv (l := [(0, .ref m), (1, .ref s)]) ?_ ⟨h0, h1, trivial⟩
  refine g_aload_n dX9_remember_62 rfl (by rfl) ?_
  refine g_aload_n dX9_remember_63 rfl (by rfl) ?_
  refine g_getf dX9_remember_64 fX9_15 (by exact hm) (by omega) (by rfl) ?_
  refine g_aload_n dX9_remember_67 rfl (by rfl) ?_
  refine g_getf dX9_remember_68 fX9_62 (by exact hm) (by omega) (by rfl) ?_
  rw [show I1 3 = nI k from hI]
  refine g_aaldI dX9_remember_71 (by exact qk) (by omega) (by rfl) (by omega) (by omega) (by exact hf k hk) ?_
  refine g_callS_p (c_X9_copy hsrc (hds k hk) (by omega) (by omega) (by omega)) dX9_remember_72 (mX9_copy) rfl lX9_65 sX9_copy (by decide) rfl rfl (Nat.le_of_ble_eq_true rfl) (fun v9 h9 z9 => ?_)
  obtain ⟨rfl, ⟨g1, hg1, hgg⟩, qoff⟩ := z9
  have hm := (qoff m (by omega)).trans hm
  have qk := (qoff (m + 2) (by omega)).trans qk
  refine g_aload_n dX9_remember_75 rfl (by rfl) ?_
  refine g_dup dX9_remember_76 (by rfl) ?_
  refine g_getf dX9_remember_77 fX9_62 (by exact hm) (by omega) (by rfl) ?_
  rw [show I1 3 = nI k from hI]
  refine g_iconst 1 dX9_remember_80 (by rfl) ?_
  refine g_iadd dX9_remember_81 ?_
  rw [nI_1]
  refine g_putf' dX9_remember_82 pX9_62 (by exact hm) (by omega) (by exact Nat.le_of_ble_eq_true rfl) (by rfl) (by rfl) (fun h1 e1 => ?_)
  first | have hm_1 := s_up_off e1 (by omega) hm | have hm_1 := s_up_at e1
  first | have qk_1 := s_up_off e1 (by omega) qk | have qk_1 := s_up_at e1
  refine g_vreturn dX9_remember_85 rfl (hΦ _ ?_)
  refine ⟨rfl, rfl, hm_1, ⟨pm, fun i => if i = k then g1 else P i, ⟨⟨f, qk_1, hf⟩, hpm, hinj, fun i hi => ?_⟩, fun j hj => ?_, fun i hi hne => if_neg hne⟩, ?_⟩
  · dsimp only
    have hne := hpm i hi
    refine (((s_off.rf (a := m) (b := (m + 1))).up e1 (by omega)) _ (by omega)).trans ?_
    by_cases e : i = k
    · rw [if_pos e, e]; exact hg1
    · rw [if_neg e]
      refine (qoff _ ?_).trans (hds i hi)
      have hne2 : pm i ≠ pm k := fun z => e (hinj i k hi hk z)
      omega
  · show (if k = k then g1 else P k) j = g j
    rw [if_pos rfl]; exact hgg j hj
  · intro j hj hj2
    exact (((s_off.rf (a := m) (b := (m + 1))).up e1 (by omega)) _ (by omega)).trans (qoff _ (by omega))

theorem c_X9_remember_a {h : s_H} {n m s l : Nat} {I : Nat → Int32} {pm : Nat → Nat} {P : Nat → Nat → Int32} {g : Nat → Int32} (hm : h m = .inr (7, m_fs m I)) (hQ : m_ps h m pm P) (hsrc : h s = .inl (0, 61, .inl g)) (hn : m + 21 ≤ n) (hs : s < n) (hsd : s ≠ m ∧ (s < m + 2 ∨ m + 13 ≤ s)) (hI : I 3 = nI l) (hl10 : l < 10) : s_Mt TX9_remember 0 0 [.ref m, .ref s] h n (s_rp n (fun v9 h1 => v9 = none ∧ h1 m = .inr (7, m_fs m (upd I 3 (nI (hp_l l + 1)))) ∧ (∃ pm P1, m_ps h1 m pm P1 ∧ m_rmb P l g P1) ∧ s_off2 h h1 m (m + 1) (m + 2) (m + 13)) s_no) := by
  refine s_Mt_of rfl (by decide) (by exact Nat.le_of_ble_eq_true rfl) ?_
  refine g_aload_n dX9_remember_0 rfl (by rfl) ?_
  refine g_getf dX9_remember_1 fX9_62 (by exact hm) (by omega) (by rfl) ?_
  rw [show I 3 = nI l from hI]
  refine g_bipush 10 dX9_remember_4 (by rfl) ?_
  refine g_icmp_ne (tgt := 62) dX9_remember_6 (by decide) (fun _ => ?_) (fun c_6 => absurd c_6 (show ¬ nI l = nI 10 from fun z => by have := nI_inj (by omega) (by omega) z; omega))
  refine m_rtail hm hQ hsrc hn hs hsd hI hl10 (fun h1 q => ?_) rfl rfl
  obtain ⟨-, -, q1, ⟨pm1, P1, q2, q3, q4⟩, q5⟩ := q
  have e : hp_l l = l := if_pos hl10
  refine ⟨rfl, rfl, by rw [e]; exact q1, ⟨pm1, P1, q2, by rw [e]; exact q3, fun i hi hne => ?_⟩, q5⟩
  rw [if_pos hl10]
  exact q4 i hi (by rw [e] at hne; exact hne)

theorem c_X9_remember_b {h : s_H} {n m s : Nat} {I : Nat → Int32} {pm : Nat → Nat} {P : Nat → Nat → Int32} {g : Nat → Int32} (hm : h m = .inr (7, m_fs m I)) (hQ : m_ps h m pm P) (hsrc : h s = .inl (0, 61, .inl g)) (hn : m + 21 ≤ n) (hs : s < n) (hsd : s ≠ m ∧ (s < m + 2 ∨ m + 13 ≤ s)) (hI : I 3 = nI 10) : s_Mt TX9_remember 0 0 [.ref m, .ref s] h n (s_rp n (fun v9 h1 => v9 = none ∧ h1 m = .inr (7, m_fs m (upd I 3 (nI (hp_l 10 + 1)))) ∧ (∃ pm P1, m_ps h1 m pm P1 ∧ m_rmb P 10 g P1) ∧ s_off2 h h1 m (m + 1) (m + 2) (m + 13)) s_no) := by
  obtain ⟨⟨f, qk, hf⟩, hpm, hinj, hds0⟩ := hQ
  have hsrc0 := hsrc
  have loop : ∀ (r j : Nat) (h' : s_H), j + r = 9 → h' m = .inr (7, m_fs m I) → ∀ f : Nat → Option Nat, h' (m + 2) = .inl (5, 10, .inr (.inr (.inr (.inr f)))) → (∀ x, x < 10 → f x = some (m + 3 + (if x < j then pm (x + 1) else pm x))) → s_off h h' (m + 2) (m + 3) → s_G TX9_remember (s_rp n (fun v9 h1 => v9 = none ∧ h1 m = .inr (7, m_fs m (upd I 3 (nI (hp_l 10 + 1)))) ∧ (∃ pm P1, m_ps h1 m pm P1 ∧ m_rmb P 10 g P1) ∧ s_off2 h h1 m (m + 1) (m + 2) (m + 13)) s_no) 18 (s_lvs [(0, .ref m), (1, .ref s), (2, .ref (m + 3 + pm 0)), (3, .int (nI (j + 1)))]) [] h' n 0 0 := by
    intro r
    induction r with
    | zero =>
      intro j h' hj hm f qk hf hoff
      obtain rfl : j = 9 := by omega
      have hds : ∀ j, j < 10 → h' (m + 3 + pm j) = .inl (0, 61, .inl (P j)) := fun j hj => (hoff _ (by omega)).trans (hds0 j hj)
      have hsrc : h' s = .inl (0, 61, .inl g) := (hoff _ (by omega)).trans hsrc0
      have hb0 := hpm 0 (by omega)
      refine g_iload_n dX9_remember_18 rfl (by rfl) ?_
      refine g_bipush 10 dX9_remember_19 (by rfl) ?_
      refine g_icmp_ge (tgt := 44) dX9_remember_21 (by decide) (fun _ => ?_) (fun c_21 => absurd (show nI 10 ≤ nI (9 + 1) from nI_le (by omega) (by omega)) c_21)
      refine g_aload_n dX9_remember_44 rfl (by rfl) ?_
      refine g_getf dX9_remember_45 fX9_15 (by exact hm) (by omega) (by rfl) ?_
      refine g_bipush 9 dX9_remember_48 (by rfl) ?_
      refine g_aload_n dX9_remember_50 rfl (by rfl) ?_
      refine g_aastI' dX9_remember_51 (by exact qk) (by omega) (by omega) (by exact hds 0 (by omega)) (show (9 : Int32) = nI 9 from rfl) (by omega) (by omega) (fun h1 e1 => ?_)
      first | have hm_1 := s_up_off e1 (by omega) hm | have hm_1 := s_up_at e1
      first | have qk_1 := s_up_off e1 (by omega) qk | have qk_1 := s_up_at e1
      first | have hsrc_1 := s_up_off e1 (by omega) hsrc | have hsrc_1 := s_up_at e1
      refine g_aload_n dX9_remember_52 rfl (by rfl) ?_
      refine g_dup dX9_remember_53 (by rfl) ?_
      refine g_getf dX9_remember_54 fX9_62 (by exact hm_1) (by omega) (by rfl) ?_
      rw [show I 3 = nI 10 from hI]
      refine g_iconst 1 dX9_remember_57 (by rfl) ?_
      refine g_isub dX9_remember_58 ?_
      rw [show (nI 10 - 1 : Int32) = nI 9 from rfl]
      refine g_putf' dX9_remember_59 pX9_62 (by exact hm_1) (by omega) (by exact Nat.le_of_ble_eq_true rfl) (by rfl) (by rfl) (fun h2 e2 => ?_)
      first | have hm_2 := s_up_off e2 (by omega) hm_1 | have hm_2 := s_up_at e2
      first | have qk_2 := s_up_off e2 (by omega) qk_1 | have qk_2 := s_up_at e2
      first | have hsrc_2 := s_up_off e2 (by omega) hsrc_1 | have hsrc_2 := s_up_at e2
      have hof9 : s_off2 h h2 m (m + 1) (m + 2) (m + 13) := fun r9 z1 z2 => by rw [e2, s_up_ne _ _ (by omega), e1, s_up_ne _ _ (by omega)]; exact hoff r9 (by omega)
      have hQ9 : m_ps h2 m (o_rot pm) (o_rot P) := by
        refine ⟨⟨_, qk_2, ?_⟩, ?_, ?_, ?_⟩
        · intro i hi
          simp only [va_up, o_rot]
          by_cases e9 : i = 9
          · rw [if_pos e9, if_neg (by omega)]
          · rw [if_neg e9, if_pos (by omega), hf i hi, if_pos (by omega)]
        · intro i hi
          simp only [o_rot]
          split
          · exact hpm _ (by omega)
          · exact hpm _ (by omega)
        · intro i j hi hj hij
          simp only [o_rot] at hij
          by_cases e1 : i < 9 <;> by_cases e2 : j < 9
          · rw [if_pos e1, if_pos e2] at hij
            have := hinj _ _ (by omega) (by omega) hij
            omega
          · rw [if_pos e1, if_neg e2] at hij
            have := hinj _ _ (by omega) (by omega) hij
            omega
          · rw [if_neg e1, if_pos e2] at hij
            have := hinj _ _ (by omega) (by omega) hij
            omega
          · omega
        · intro i hi
          have hg : ∀ j, j < 10 → h2 (m + 3 + pm j) = .inl (0, 61, .inl (P j)) := fun j hj => (((((s_off.rf (a := m) (b := (m + 3))).up e1 (by omega)).up e2 (by omega))) _ (by have := hpm j hj; omega)).trans (hds j hj)
          simp only [o_rot]
          by_cases e1 : i < 9
          · rw [if_pos e1, if_pos e1]
            exact hg _ (by omega)
          · rw [if_neg e1, if_neg e1]
            exact hg _ (by omega)
      refine m_rtail (I1 := upd I 3 (nI 9)) hm_2 hQ9 (by rw [e2, s_up_ne _ _ (by omega), e1, s_up_ne _ _ (by omega)]; exact hsrc) hn hs hsd rfl (by omega) (fun h1 q => ?_) rfl rfl
      obtain ⟨-, -, q1, ⟨pm1, P1, q2, q3, q4⟩, q5⟩ := q
      rw [upd_upd] at q1
      exact ⟨rfl, rfl, q1, ⟨pm1, P1, q2, q3, fun i hi hne => by rw [if_neg (by omega)]; exact q4 i hi hne⟩, hof9.trans q5⟩
    | succ r ih =>
      intro j h' hj hm f qk hf hoff
      have hds : ∀ j, j < 10 → h' (m + 3 + pm j) = .inl (0, 61, .inl (P j)) := fun j hj => (hoff _ (by omega)).trans (hds0 j hj)
      have hsrc : h' s = .inl (0, 61, .inl g) := (hoff _ (by omega)).trans hsrc0
      have hbj := hpm (j + 1) (by omega)
      refine g_iload_n dX9_remember_18 rfl (by rfl) ?_
      refine g_bipush 10 dX9_remember_19 (by rfl) ?_
      refine g_icmp_ge (tgt := 44) dX9_remember_21 (by decide) (fun c_21 => absurd c_21 (show ¬ nI 10 ≤ nI (j + 1) from nI_ge (by omega) (by omega))) (fun _ => ?_)
      refine g_aload_n dX9_remember_24 rfl (by rfl) ?_
      refine g_getf dX9_remember_25 fX9_15 (by exact hm) (by omega) (by rfl) ?_
      refine g_iload_n dX9_remember_28 rfl (by rfl) ?_
      refine g_iconst 1 dX9_remember_29 (by rfl) ?_
      refine g_isub dX9_remember_30 ?_
      refine g_aload_n dX9_remember_31 rfl (by rfl) ?_
      refine g_getf dX9_remember_32 fX9_15 (by exact hm) (by omega) (by rfl) ?_
      refine g_iload_n dX9_remember_35 rfl (by rfl) ?_
      refine g_aaldI dX9_remember_36 (by exact qk) (by omega) (by rfl) (by omega) (by omega) (by exact (hf (j + 1) (by omega)).trans (by rw [if_neg (by omega)])) ?_
      refine g_aastI' dX9_remember_37 (by exact qk) (by omega) (by omega) (by exact hds (j + 1) (by omega)) (by exact nI_pred j) (by omega) (by omega) (fun h1 e1 => ?_)
      first | have hm_1 := s_up_off e1 (by omega) hm | have hm_1 := s_up_at e1
      first | have qk_1 := s_up_off e1 (by omega) qk | have qk_1 := s_up_at e1
      first | have hsrc_1 := s_up_off e1 (by omega) hsrc | have hsrc_1 := s_up_at e1
      refine g_iinc (nI (j + 2)) dX9_remember_38 (by rfl) (nI_inc (j + 1)) ?_
      refine g_goto (tgt := 18) dX9_remember_41 (by decide) ?_
      refine g_lv (ih (j + 1) h1 (by omega) hm_1 _ qk_1 ?_ (hoff.up e1 (by omega))) ⟨rfl, rfl, rfl, rfl, trivial⟩
      intro x hx
      simp only [va_up]
      by_cases e9 : x = j
      · rw [if_pos e9, e9, if_pos (by omega)]
      · rw [if_neg e9, hf x hx]
        by_cases e8 : x < j
        · rw [if_pos e8, if_pos (by omega)]
        · rw [if_neg e8, if_neg (by omega)]
  refine s_Mt_of rfl (by decide) (by exact Nat.le_of_ble_eq_true rfl) ?_
  refine g_aload_n dX9_remember_0 rfl (by rfl) ?_
  refine g_getf dX9_remember_1 fX9_62 (by exact hm) (by omega) (by rfl) ?_
  rw [show I 3 = nI 10 from hI]
  refine g_bipush 10 dX9_remember_4 (by rfl) ?_
  refine g_icmp_ne (tgt := 62) dX9_remember_6 (by decide) (fun c_6 => absurd (show nI 10 = 10 from rfl) c_6) (fun _ => ?_)
  refine g_aload_n dX9_remember_9 rfl (by rfl) ?_
  refine g_getf dX9_remember_10 fX9_15 (by exact hm) (by omega) (by rfl) ?_
  refine g_iconst 0 dX9_remember_13 (by rfl) ?_
  refine g_aaldI dX9_remember_14 (by exact qk) (by omega) (show (0 : Int32) = nI 0 from rfl) (by omega) (by omega) (by exact hf 0 (by omega)) ?_
  refine g_astore_n dX9_remember_15 rfl (by decide) ?_
  refine g_iconst 1 dX9_remember_16 (by rfl) ?_
  refine g_istore_n dX9_remember_17 rfl (by decide) ?_
  exact g_lv (loop 9 0 h (by omega) hm f qk (fun x hx => (hf x hx).trans (by rw [if_neg (Nat.not_lt_zero x)])) s_off.rf) ⟨rfl, rfl, rfl, rfl, trivial⟩

theorem c_X9_remember {h : s_H} {n m s l : Nat} {I : Nat → Int32} {pm : Nat → Nat} {P : Nat → Nat → Int32} {g : Nat → Int32} (hm : h m = .inr (7, m_fs m I)) (hQ : m_ps h m pm P) (hsrc : h s = .inl (0, 61, .inl g)) (hn : m + 21 ≤ n) (hs : s < n) (hsd : s ≠ m ∧ (s < m + 2 ∨ m + 13 ≤ s)) (hI : I 3 = nI l) (hl : l ≤ 10) : s_Mt TX9_remember 0 0 [.ref m, .ref s] h n (s_rp n (fun v9 h1 => v9 = none ∧ h1 m = .inr (7, m_fs m (upd I 3 (nI (hp_l l + 1)))) ∧ (∃ pm P1, m_ps h1 m pm P1 ∧ m_rmb P l g P1) ∧ s_off2 h h1 m (m + 1) (m + 2) (m + 13)) s_no) := by
  by_cases e : l < 10
  · exact c_X9_remember_a hm hQ hsrc hn hs hsd hI e
  · obtain rfl : l = 10 := by omega
    exact c_X9_remember_b hm hQ hsrc hn hs hsd hI
