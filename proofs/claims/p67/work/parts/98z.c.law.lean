/-! THE LAW ITSELF (written by wip/p67/law6.py) -/
abbrev TL_law : s_T := (yL_law, cL_law, 4, (some .boolean), [], 20)
def w_Φ : s_P := fun o _ _ => o = .inl (some (.int 1))
/-! an array of references: what lies behind its end is nothing -/
theorem vp_refs {cA : ClassId} {len : Nat} {f f' : Nat → Option Nat} (h : ∀ j, j < len → f j = f' j) : vp_cell cA (len, .inr (.inr (.inr (.inr f)))) = vp_cell cA (len, .inr (.inr (.inr (.inr f')))) := by
  rw [vp_cell_q, vp_cell_q]
  unfold arrV
  have e : (fun j : Fin len => va_rf (f j.val)) = fun j => va_rf (f' j.val) := funext fun j => by rw [h j.val j.isLt]
  rw [e]
theorem g_nrm {T : s_T} {Φ : s_P} {pc : Nat} {lv : s_V} {st : List Value} {h : s_H} {n kc ks : Nat} {a len : Nat} {f f' : Nat → Option Nat} (ho : h a = .inl (3, len, .inr (.inr (.inr (.inr f))))) (he : ∀ j, j < len → f j = f' j)
    (k : ∀ h1, h1 = s_up h a (.inl (3, len, .inr (.inr (.inr (.inr f'))))) → s_G T Φ pc lv st h1 n kc ks) : s_G T Φ pc lv st h n kc ks := by
  intro p l e R s m args below meth c X ad0 n0 A mc ms Qm C ad H locs cells slots ls S
  refine k _ rfl p l e R s m args below meth c X ad0 n0 A mc ms Qm C ad H locs cells slots ls ⟨S.1, S.2.1, S.2.2.1, fun i q hq => ?_, ⟨fun i j p q hp hq z => ?_, fun i q hq => ?_⟩, S.2.2.2.2.2⟩
  · obtain ⟨hi, rfl⟩ := s_ws_inv hq
    have h1 := S.2.2.2.1 i _ (s_ws_at hi)
    by_cases e : i = a
    · subst e
      rw [ho] at h1
      rw [s_up_same]
      show H[ad i]? = some (vp_cell (X.2 3) (len, .inr (.inr (.inr (.inr (fun j => (f' j).map ad))))))
      rw [← vp_refs (f := fun j => (f j).map ad) (f' := fun j => (f' j).map ad) (fun j hj => by rw [he j hj])]
      exact h1
    · rw [s_up_ne h _ e]
      exact h1
  · obtain ⟨hi, rfl⟩ := s_ws_inv hp
    obtain ⟨hj, rfl⟩ := s_ws_inv hq
    exact S.2.2.2.2.1.1 i j _ _ (s_ws_at hi) (s_ws_at hj) z
  · obtain ⟨hi, rfl⟩ := s_ws_inv hq
    exact S.2.2.2.2.1.2 i (ad i, s_oe X.2 ad (h i)) (s_ws_at hi)
theorem i_surj : ∀ (n : Nat) (f : Nat → Nat), (∀ i, i < n → f i < n) → (∀ i j, i < n → j < n → f i = f j → i = j) → ∀ p, p < n → ∃ i, i < n ∧ f i = p
  | 0, _, _, _, p, hp => by omega
  | n + 1, f, h1, h2, p, hp => by
    have ha := h1 n (by omega)
    have ih := i_surj n (fun i => if f i = n then f n else f i) (fun i hi => by
      have hfi := h1 i (by omega)
      by_cases e : f i = n
      · rw [if_pos e]
        have : ¬ f n = n := fun z => by
          have := h2 i n (by omega) (by omega) (e.trans z.symm)
          omega
        omega
      · rw [if_neg e]
        omega) (fun i j hi hj z => by
      by_cases e1 : f i = n <;> by_cases e2 : f j = n
      · exact h2 i j (by omega) (by omega) (e1.trans e2.symm)
      · rw [if_pos e1, if_neg e2] at z
        have := h2 n j (by omega) (by omega) z
        omega
      · rw [if_neg e1, if_pos e2] at z
        have := h2 i n (by omega) (by omega) z
        omega
      · rw [if_neg e1, if_neg e2] at z
        exact h2 i j (by omega) (by omega) z)
    by_cases e : p = f n
    · exact ⟨n, by omega, e.symm⟩
    · by_cases e2 : p = n
      · obtain ⟨i, hi, z⟩ := ih (f n) (by omega)
        by_cases e3 : f i = n
        · exact ⟨i, by omega, e3.trans e2.symm⟩
        · rw [if_neg e3] at z
          have := h2 i n (by omega) (by omega) z
          omega
      · obtain ⟨i, hi, z⟩ := ih p (by omega)
        by_cases e3 : f i = n
        · rw [if_pos e3] at z
          exact absurd z.symm e
        · rw [if_neg e3] at z
          exact ⟨i, by omega, z⟩
theorem s_disk_cl {h : s_H} {d n : Nat} {σ : s_D} (q : s_disk h d σ) (hd : d + 5 ≤ n) : ∀ j, d ≤ j → j < d + 5 → s_co n (h j) := fun j h1 h2 => by
  obtain ⟨q0, q1, q2, q3, q4⟩ := q
  have h9 : j = d ∨ j = d + 1 ∨ j = d + 2 ∨ j = d + 3 ∨ j = d + 4 := by omega
  rcases h9 with rfl | rfl | rfl | rfl | rfl
  · rw [q0]
    exact (List.forall_mem_cons.mpr ⟨(by first | exact s_vo_r (by omega) | exact Or.inl (by omega) | exact Or.inr (by omega)), (List.forall_mem_cons.mpr ⟨(by first | exact s_vo_r (by omega) | exact Or.inl (by omega) | exact Or.inr (by omega)), (List.forall_mem_cons.mpr ⟨(by first | exact s_vo_r (by omega) | exact Or.inl (by omega) | exact Or.inr (by omega)), (List.forall_mem_cons.mpr ⟨(by first | exact s_vo_r (by omega) | exact Or.inl (by omega) | exact Or.inr (by omega)), (List.forall_mem_cons.mpr ⟨trivial, (List.forall_mem_cons.mpr ⟨trivial, (List.forall_mem_cons.mpr ⟨trivial, (List.forall_mem_cons.mpr ⟨trivial, (List.forall_mem_cons.mpr ⟨trivial, (fun _ z => nomatch z)⟩)⟩)⟩)⟩)⟩)⟩)⟩)⟩)⟩)
  · rw [q1]; trivial
  · rw [q2]; trivial
  · rw [q3]; trivial
  · rw [q4]; trivial
theorem s_pl_cl {h : s_H} {π : s_Pl} (hP : s_pl h 0 π) {f : Nat → Option Nat} (hf : h 17 = .inl (3, 10, .inr (.inr (.inr (.inr f))))) (hf9 : ∀ j x, f j = some x → x < 93) : s_cl h 93 := fun i hi => by
  obtain ⟨q1, q2, q3, ⟨σt, q4⟩, ⟨pm, ⟨k1, -, k2, k3, k4⟩⟩, ⟨τ, ⟨t0, t1, t2, t3, t4⟩, -⟩, ⟨o, len, ⟨g1, gf, g2, g3⟩, -⟩, ⟨nx, tk, ts, ex, r1, r2⟩, p1, p2, fr, p3, p4⟩ := hP
  unfold s_po at q1
  by_cases e0 : i = 0
  · subst e0
    rw [show h 0 = _ from q1]
    exact (List.forall_mem_cons.mpr ⟨(by first | exact s_vo_r (by omega) | exact Or.inl (by omega) | exact Or.inr (by omega)), (List.forall_mem_cons.mpr ⟨(by first | exact s_vo_r (by omega) | exact Or.inl (by omega) | exact Or.inr (by omega)), (List.forall_mem_cons.mpr ⟨(by first | exact s_vo_r (by omega) | exact Or.inl (by omega) | exact Or.inr (by omega)), (List.forall_mem_cons.mpr ⟨trivial, (List.forall_mem_cons.mpr ⟨(by first | exact s_vo_r (by omega) | exact Or.inl (by omega) | exact Or.inr (by omega)), (List.forall_mem_cons.mpr ⟨(by first | exact s_vo_r (by omega) | exact Or.inl (by omega) | exact Or.inr (by omega)), (List.forall_mem_cons.mpr ⟨(by first | exact s_vo_r (by omega) | exact Or.inl (by omega) | exact Or.inr (by omega)), (List.forall_mem_cons.mpr ⟨(by first | exact s_vo_r (by omega) | exact Or.inl (by omega) | exact Or.inr (by omega)), (List.forall_mem_cons.mpr ⟨(by first | exact s_vo_r (by omega) | exact Or.inl (by omega) | exact Or.inr (by omega)), (fun _ z => nomatch z)⟩)⟩)⟩)⟩)⟩)⟩)⟩)⟩)⟩)
  by_cases e1 : i < 6
  · exact s_disk_cl q2 (by omega) i (by omega) (by omega)
  by_cases e2 : i < 11
  · exact s_disk_cl q4 (by omega) i (by omega) (by omega)
  by_cases e3 : i < 16
  · exact s_disk_cl q3 (by omega) i (by omega) (by omega)
  by_cases e4 : i = 16
  · subst e4
    rw [show h 16 = _ from k1]
    exact (List.forall_mem_cons.mpr ⟨(by first | exact s_vo_r (by omega) | exact Or.inl (by omega) | exact Or.inr (by omega)), (List.forall_mem_cons.mpr ⟨trivial, (fun _ z => nomatch z)⟩)⟩)
  by_cases e5 : i = 17
  · subst e5
    rw [hf]
    exact fun j x z => Or.inl (hf9 j x z)
  by_cases e6 : i < 68
  · obtain ⟨x, hx, ex⟩ := i_surj 10 pm k2 k3 ((i - 18) / 5) (by omega)
    have hdk := k4 x hx
    rw [ex] at hdk
    exact s_disk_cl hdk (by omega) i (by omega) (by omega)
  by_cases e7 : i = 68
  · subst e7
    rw [show h 68 = _ from t0]
    exact (List.forall_mem_cons.mpr ⟨(by first | exact s_vo_r (by omega) | exact Or.inl (by omega) | exact Or.inr (by omega)), (List.forall_mem_cons.mpr ⟨(by first | exact s_vo_r (by omega) | exact Or.inl (by omega) | exact Or.inr (by omega)), (List.forall_mem_cons.mpr ⟨(by first | exact s_vo_r (by omega) | exact Or.inl (by omega) | exact Or.inr (by omega)), (List.forall_mem_cons.mpr ⟨trivial, (List.forall_mem_cons.mpr ⟨trivial, (List.forall_mem_cons.mpr ⟨trivial, (fun _ z => nomatch z)⟩)⟩)⟩)⟩)⟩)⟩)
  by_cases e8 : i = 69
  · subst e8
    rw [show h 69 = _ from t1]
    intro j x z
    dsimp only at z
    by_cases e : j < 15
    · rw [if_pos e] at z
      cases z
      exact Or.inl (by omega)
    · rw [if_neg e] at z
      cases z
  by_cases e9 : i < 85
  · have hr := t2 (i - 70) (by omega)
    rw [show 0 + 68 + 2 + (i - 70) = i by omega] at hr
    rw [hr]
    trivial
  by_cases e10 : i = 85
  · subst e10
    rw [show h 85 = _ from t3]
    trivial
  by_cases e11 : i = 86
  · subst e11
    rw [show h 86 = _ from t4]
    trivial
  by_cases e12 : i = 87
  · subst e12
    rw [show h 87 = _ from g1]
    exact (List.forall_mem_cons.mpr ⟨(by first | exact s_vo_r (by omega) | exact Or.inl (by omega) | exact Or.inr (by omega)), (List.forall_mem_cons.mpr ⟨trivial, (fun _ z => nomatch z)⟩)⟩)
  by_cases e13 : i = 88
  · subst e13
    rw [show h 88 = _ from g2]
    trivial
  by_cases e14 : i = 89
  · subst e14
    rw [show h 89 = _ from r1]
    exact (List.forall_mem_cons.mpr ⟨(by first | exact s_vo_r (by omega) | exact Or.inl (by omega) | exact Or.inr (by omega)), (List.forall_mem_cons.mpr ⟨trivial, (List.forall_mem_cons.mpr ⟨trivial, (List.forall_mem_cons.mpr ⟨trivial, (List.forall_mem_cons.mpr ⟨trivial, (List.forall_mem_cons.mpr ⟨trivial, (List.forall_mem_cons.mpr ⟨trivial, (List.forall_mem_cons.mpr ⟨trivial, (fun _ z => nomatch z)⟩)⟩)⟩)⟩)⟩)⟩)⟩)⟩)
  by_cases e15 : i = 90
  · subst e15
    rw [show h 90 = _ from r2]
    trivial
  by_cases e16 : i = 91
  · subst e16
    rw [show h 91 = _ from p1]
    exact (List.forall_mem_cons.mpr ⟨(by first | exact s_vo_r (by omega) | exact Or.inl (by omega) | exact Or.inr (by omega)), (List.forall_mem_cons.mpr ⟨trivial, (fun _ z => nomatch z)⟩)⟩)
  obtain rfl : i = 92 := by omega
  rw [show h 92 = _ from p3]
  trivial
theorem i_rm {a m : Nat} (ha : a < 2147483648) (hm : m < 2147483648) (h0 : 0 < m) : nI a - nI a / nI m * nI m = nI (a % m) := by
  have h1 := Nat.div_mul_le_self a m
  have h2 := Nat.div_add_mod a m
  rw [nI_div ha hm h0, nI_mul, nI_sble h1]
  congr 1
  rw [Nat.mul_comm] at h2
  omega
theorem i_u26 (x : Int32) : ∃ w, w < 67108864 ∧ x &&& 67108863 = nI w := ⟨(x &&& 67108863).toBitVec.toNat, by
    rw [Int32.toBitVec_and, BitVec.toNat_and]
    exact Nat.lt_succ_of_le (Nat.le_trans Nat.and_le_right (by decide)), by
    apply Int32.toBitVec_inj.mp
    show _ = BitVec.ofNat 32 _
    rw [BitVec.ofNat_toNat, BitVec.setWidth_eq]⟩
theorem w_main (h : s_H) : s_G TL_law w_Φ 0 (s_ent [.ref (s_big + 500)]) [] h 0 600086 7301442 := by
  have hB : ∀ n, s_vo n (.ref (s_big + 500)) := fun n => Or.inr (Nat.le_add_right _ _)
  have hs9 : 115 ≤ s_big := by decide
  have loop : ∀ L r k h, w_In h 0 L → k + 2 * r = 42 → s_G TL_law w_Φ 44 (s_lvs [(0, .ref (s_big + 500)), (1, .ref 0), (2, .int (nI (k)))]) [] h 99 (330 * r) (1980 * r) := by
    intro L r
    induction r with
    | zero =>
      intro k h hI hk
      obtain rfl : k = 42 := by omega
      refine g_iload_n dL_law_44 rfl (by rfl) ?_
      refine g_bipush 42 dL_law_45 (by rfl) ?_
      refine g_icmp_ge (tgt := 124) dL_law_47 (by decide) (fun _ => ?_) (fun c_47 => absurd (by decide) c_47)
      refine g_iconst 1 dL_law_124 (by rfl) ?_
      refine g_zreturn dL_law_125 rfl (by decide) ?_
      rfl
    | succ r ih =>
      intro k h hI hk
      refine g_iload_n dL_law_44 rfl (by rfl) ?_
      refine g_bipush 42 dL_law_45 (by rfl) ?_
      refine g_icmp_ge (tgt := 124) dL_law_47 (by decide) (fun c_47 => absurd c_47 (i_nge (b := 42) (by omega) (by omega))) (fun _ => ?_)
      refine g_aload_n dL_law_50 rfl (by rfl) ?_
      refine g_aload_n dL_law_51 rfl (by rfl) ?_
      refine g_iload_n dL_law_52 rfl (by rfl) ?_
      refine g_callS (rest := []) (c_L_act hI (by omega) (by omega)) dL_law_53 mL_act rfl lL_286 sL_act (by decide) rfl rfl (Nat.le_of_ble_eq_true rfl) (by omega) (by omega) s_rp.same (fun v9 h9 z9 => ?_) (fun E h' z => z.2.elim)
      obtain ⟨-, z1, hI⟩ := z9
      cases z1
      obtain ⟨π, cnt, cp, hP, ok, hl, hL⟩ := hI
      refine g_aload_n dL_law_56 rfl (by rfl) ?_
      refine g_iload_n dL_law_57 rfl (by rfl) ?_
      refine g_callS_p (c_L_cell (by omega)) dL_law_58 mL_cell rfl lL_7 sL_cell (by decide) rfl rfl (Nat.le_of_ble_eq_true rfl) (fun v9 h9 z9 => ?_)
      obtain ⟨e9, x, rfl⟩ := z9
      obtain rfl := e9.symm
      refine g_iconst 5 dL_law_61 (by rfl) ?_
      refine g_ishr dL_law_62 ?_
      refine g_ldcw dL_law_63 kL_290 ?_
      refine g_iand dL_law_66 ?_
      obtain ⟨u, hu, eu⟩ := i_u26 (x >>> (5 &&& 31))
      rw [eu]
      refine g_istore_n dL_law_67 rfl (by decide) ?_
      refine g_aload_n dL_law_68 rfl (by rfl) ?_
      refine g_callS (rest := []) (c_L_isSound hP (by omega) ok) dL_law_69 mL_isSound rfl lL_270 sL_isSound (by decide) rfl rfl (Nat.le_of_ble_eq_true rfl) (by omega) (by omega) s_rp.same (fun v9 h9 z9 => ?_) (fun E h' z => z.2.elim)
      obtain ⟨-, z1, hP⟩ := z9
      cases z1
      refine g_if_eq (tgt := 86) dL_law_72 (by decide) (fun c_72 => absurd c_72 (by decide)) (fun _ => ?_)
      refine g_aload_n dL_law_75 rfl (by rfl) ?_
      refine g_iload_n dL_law_76 rfl (by rfl) ?_
      refine g_bipush 101 dL_law_77 (by rfl) ?_
      refine g_irem dL_law_79 (by decide) ?_
      refine g_top (nI (u % 101)) (i_rm (m := 101) (by omega) (by omega) (by omega)) ?_
      refine g_callS (rest := []) (c_L_grows hP (by omega) ok (by omega)) dL_law_80 mL_grows rfl lL_274 sL_grows (by decide) rfl rfl (Nat.le_of_ble_eq_true rfl) (by omega) (by omega) s_rp.same (fun v9 h9 z9 => ?_) (fun E h' z => z.2.elim)
      obtain ⟨-, z1, hP⟩ := z9
      cases z1
      refine g_if_ne (tgt := 88) dL_law_83 (by decide) (fun _ => ?_) (fun c_83 => absurd c_83 (by decide))
      refine g_iload_n dL_law_88 rfl (by rfl) ?_
      refine g_iconst 3 dL_law_89 (by rfl) ?_
      refine g_irem dL_law_90 (by decide) ?_
      refine g_if_ne (tgt := 118) dL_law_91 (by decide) (fun c_91 => ?_) (fun c_91 => ?_)
      · have hI : w_In h9 0 L := ⟨π, cnt, cp, hP, ok, hl, hL⟩
        refine g_iinc (nI (k + 2)) dL_law_118 (by rfl) (nI_add' k 2) ?_
        refine g_goto (tgt := 44) dL_law_121 (by decide) ?_
        exact g_sub (g_lv (l := [(0, .ref (s_big + 500)), (1, .ref 0), (2, .int (nI (k + 2)))]) (ih (k + 2) _ hI (by omega)) ⟨by rfl, by rfl, by rfl, trivial⟩) (fun _ _ z => z) (by omega) (by omega)
      · refine g_aload_n dL_law_94 rfl (by rfl) ?_
        refine g_iconst 1 dL_law_95 (by rfl) ?_
        refine g_iload_n dL_law_96 rfl (by rfl) ?_
        refine g_iconst 4 dL_law_97 (by rfl) ?_
        refine g_idiv dL_law_98 (by decide) ?_
        rw [show (4 : Int32) = nI 4 from rfl, nI_div (by omega) (by omega) (by omega)]
        refine g_iconst 4 dL_law_99 (by rfl) ?_
        refine g_irem dL_law_100 (by decide) ?_
        refine g_top (nI (u / 4 % 4)) (i_rm (m := 4) (by have := Nat.div_le_self u 4; omega) (by omega) (by omega)) ?_
        refine g_iadd dL_law_101 ?_
        refine g_top (nI (1 + u / 4 % 4)) (nI_add' 1 _) ?_
        refine g_iconst 1 dL_law_102 (by rfl) ?_
        refine g_iload_n dL_law_103 rfl (by rfl) ?_
        refine g_bipush 64 dL_law_104 (by rfl) ?_
        refine g_idiv dL_law_106 (by decide) ?_
        rw [show (64 : Int32) = nI 64 from rfl, nI_div (by omega) (by omega) (by omega)]
        refine g_iconst 4 dL_law_107 (by rfl) ?_
        refine g_irem dL_law_108 (by decide) ?_
        refine g_top (nI (u / 64 % 4)) (i_rm (m := 4) (by have := Nat.div_le_self u 64; omega) (by omega) (by omega)) ?_
        refine g_iadd dL_law_109 ?_
        refine g_top (nI (1 + u / 64 % 4)) (nI_add' 1 _) ?_
        refine g_callS (rest := []) (c_L_isAlike hP (by omega) ok hl hL (by omega) (by omega) (by omega)) dL_law_110 mL_isAlike rfl lL_278 sL_isAlike (by decide) rfl rfl (Nat.le_of_ble_eq_true rfl) (by omega) (by omega) s_rp.same (fun v9 h9 z9 => ?_) (fun E h' z => z.2.elim)
        obtain ⟨-, z1, hI⟩ := z9
        cases z1
        refine g_if_ne (tgt := 118) dL_law_113 (by decide) (fun _ => ?_) (fun c_113 => absurd c_113 (by decide))
        refine g_iinc (nI (k + 2)) dL_law_118 (by rfl) (nI_add' k 2) ?_
        refine g_goto (tgt := 44) dL_law_121 (by decide) ?_
        exact g_sub (g_lv (l := [(0, .ref (s_big + 500)), (1, .ref 0), (2, .int (nI (k + 2)))]) (ih (k + 2) _ hI (by omega)) ⟨by rfl, by rfl, by rfl, trivial⟩) (fun _ _ z => z) (by omega) (by omega)
  have hcl : s_cl h 0 := fun i hi => absurd hi (Nat.not_lt_zero _)
  have hv0 : ∀ n i v, s_ent [Value.ref (s_big + 500)] i = some v → s_vo n v := fun n => s_lvs_vo (l := [(0, .ref (s_big + 500))]) (List.forall_mem_cons.mpr ⟨hB n, fun _ z => nomatch z⟩)
  have hnl : ∀ n, ∀ v ∈ ([] : List Value), s_vo n v := fun n v z => nomatch z
  refine g_new' (ci := 6) (C := RX8) (T9 := TX8) (N := 9) tyX8 dL_law_0 rfl wiX8 tyX8_ok wk_L_20 wn_8 wz_8 zf_X8 zv_X8 (by omega) hcl (hv0 0) (hnl 0) (by omega) (by omega) (fun h1 e1 hcl => ?_)
  have ho := s_up_at e1
  refine g_dup dL_law_3 (by rfl) ?_
  refine g_callIg (rest := [.ref 0]) (c_X8_init ho hcl (by omega)) dL_law_4 mX8_init rfl lL_269 iX8_init rfl rfl (by decide) rfl rfl (Nat.le_of_ble_eq_true rfl) (by omega) (by omega) (fun E h' n' z => by cases z.1) (hv0 1) (s_vo1 (show 0 < 0 + 1 by omega)) (fun v h2 n' z hnn => ?_)
  obtain ⟨zo, rfl, hcl, hP, hlo⟩ := z
  cases zo
  have ok0 : d_ok pl_ini.1 6 20 := d_ini_ok
  refine g_astore_n dL_law_7 rfl (by decide) ?_
  refine g_lv (l := [(0, .ref (s_big + 500)), (1, .ref 0)]) ?_ ⟨by rfl, by rfl, trivial⟩
  refine g_aload_n dL_law_8 rfl (by rfl) ?_
  refine g_callS (rest := []) (c_L_isSound hP (by omega) ok0) dL_law_9 mL_isSound rfl lL_270 sL_isSound (by decide) rfl rfl (Nat.le_of_ble_eq_true rfl) (by omega) (by omega) s_rp.same (fun v9 h9 z9 => ?_) (fun E h' z => z.2.elim)
  obtain ⟨-, z1, hP⟩ := z9
  cases z1
  refine g_if_eq (tgt := 40) dL_law_12 (by decide) (fun c_12 => absurd c_12 (by decide)) (fun _ => ?_)
  refine g_aload_n dL_law_15 rfl (by rfl) ?_
  refine g_iconst 0 dL_law_16 (by rfl) ?_
  refine g_callS (rest := []) (c_L_grows hP (by omega) ok0 (c0 := 0) (by omega)) dL_law_17 mL_grows rfl lL_274 sL_grows (by decide) rfl rfl (Nat.le_of_ble_eq_true rfl) (by omega) (by omega) s_rp.same (fun v9 h9 z9 => ?_) (fun E h' z => z.2.elim)
  obtain ⟨-, z1, hP⟩ := z9
  cases z1
  refine g_if_eq (tgt := 40) dL_law_20 (by decide) (fun c_20 => absurd c_20 (by decide)) (fun _ => ?_)
  refine g_aload_n dL_law_23 rfl (by rfl) ?_
  refine g_iconst 2 dL_law_24 (by rfl) ?_
  refine g_iconst 3 dL_law_25 (by rfl) ?_
  refine g_callS (rest := []) (c_L_isAlike (a := 2) (c := 3) hP (by omega) ok0 (by decide) rfl (by omega) (by omega) (by omega)) dL_law_26 mL_isAlike rfl lL_278 sL_isAlike (by decide) rfl rfl (Nat.le_of_ble_eq_true rfl) (by omega) (by omega) s_rp.same (fun v9 h9 z9 => ?_) (fun E h' z => z.2.elim)
  obtain ⟨-, z1, hI⟩ := z9
  cases z1
  refine g_if_eq (tgt := 40) dL_law_29 (by decide) (fun c_29 => absurd c_29 (by decide)) (fun _ => ?_)
  refine g_aload_n dL_law_32 rfl (by rfl) ?_
  refine g_aload_n dL_law_33 rfl (by rfl) ?_
  obtain ⟨π, cnt, cp, hP, ok, hl, hL⟩ := hI
  have hP9 := hP
  obtain ⟨-, -, -, -, ⟨pm, ⟨hk1, ⟨f9, hf1, hf2⟩, hk2, hk3, hk4⟩⟩, -⟩ := hP9
  refine g_nrm (f' := fun j => if j < 10 then f9 j else none) hf1 (fun j hj => (if_pos hj).symm) (fun h8 e8 => ?_)
  have zo : s_off h9 h8 17 18 := s_off.rf.up e8 (by omega)
  have hP8 : s_pl h8 0 π := hP.hist (pm := pm) (zo.wide (by omega) (by omega)) ⟨(zo _ (by omega)).trans hk1, ⟨_, s_up_at e8, fun i hi => (if_pos hi).trans (hf2 i hi)⟩, hk2, hk3, fun i hi => (hk4 i hi).off zo (by omega)⟩
  have hcl8 : s_cl h8 93 := s_pl_cl hP8 (s_up_at e8) (fun j y z => by
    by_cases e : j < 10
    · rw [if_pos e, hf2 j e] at z
      cases z
      have := hk2 j e
      omega
    · rw [if_neg e] at z
      cases z)
  have hI8 : w_In h8 0 0 := ⟨π, cnt, cp, hP8, ok, hl, hL⟩
  refine g_callSg (rest := []) (c_L_began hI8 (by omega) hcl8 (by omega)) dL_law_34 mL_began rfl lL_282 sL_began (by decide) rfl rfl (Nat.le_of_ble_eq_true rfl) (by omega) (by omega) (fun E h' n' z => by cases z.1) (s_lvs_vo (l := [(0, .ref (s_big + 500)), (1, .ref 0)]) (List.forall_mem_cons.mpr ⟨(by first | exact s_vo_r (by omega) | exact Or.inl (by omega) | exact Or.inr (by omega)), List.forall_mem_cons.mpr ⟨(by first | exact s_vo_r (by omega) | exact Or.inl (by omega) | exact Or.inr (by omega)), fun _ z => nomatch z⟩⟩)) (fun _ z => nomatch z) (fun w9 h9 n9 z9 _ => ?_)
  obtain ⟨z1, rfl, L, hI⟩ := z9
  cases z1
  refine g_if_eq (tgt := 42) dL_law_37 (by decide) (fun _ => ?_) (fun c_37 => absurd rfl c_37)
  refine g_iconst 2 dL_law_42 (by rfl) ?_
  refine g_istore_n dL_law_43 rfl (by decide) ?_
  exact g_sub (g_lv (l := [(0, .ref (s_big + 500)), (1, .ref 0), (2, .int (nI (2)))]) (loop L 20 2 _ hI (by omega)) ⟨by rfl, by rfl, by rfl, trivial⟩) (fun _ _ z => z) (by omega) (by omega)
