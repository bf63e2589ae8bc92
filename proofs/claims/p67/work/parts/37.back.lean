/-! BACKUPS -/
theorem s_Mt_mono {T : s_T} {mc ms : Nat} {as : List Value} {h : s_H} {n : Nat} {Φ Ψ : s_P} (M : s_Mt T mc ms as h n Ψ) (hi : ∀ o h n, Ψ o h n → Φ o h n) : s_Mt T mc ms as h n Φ := by
  intro l htr X ad sz
  exact (M l htr X ad sz).imp (fun a st o t q => by
    rcases q with ⟨q, r⟩ | ⟨q, e, E, ce, L, hx, r⟩
    · exact Or.inl ⟨s_Q_mono hi q, r⟩
    · exact Or.inr ⟨q, e, E, ce, L, s_XQ_mono hi hx, r⟩)
noncomputable def v_tk (σ : s_D) (cnt cp : Nat) : Int32 := r_se (u_best σ cnt cp)
/-- the disk behind k backups -/
noncomputable def v_bn (σ : s_D) (cnt cp : Nat) : Nat → s_D
  | 0 => σ
  | k + 1 => d_bk (v_bn σ cnt cp k) (v_tk (v_bn σ cnt cp k) cnt cp) cnt
noncomputable def v_un (σ : s_D) (cnt cp : Nat) : Nat → Int32
  | 0 => 0
  | k + 1 => v_un σ cnt cp k ||| v_tk (v_bn σ cnt cp k) cnt cp
theorem d_ok.bk {σ : s_D} {cnt cp : Nat} (ok : d_ok σ cnt cp) (set : Int32) : d_ok (d_bk σ set cnt) cnt cp := by
  obtain ⟨h1, h2, h3, h4, h5⟩ := ok
  refine ⟨h1, h2, h3, h4, fun i hi => ?_⟩
  obtain ⟨a1, a2, ⟨a, a3, a4⟩, a5⟩ := h5 i hi
  refine ⟨a1, a2, ?_, a5⟩
  show ∃ a, (if i < cnt then (if s_bit set (nI i) = 0 then (if σ.1 2 i < 9 then σ.1 2 i + 1 else σ.1 2 i) else 0) else σ.1 2 i) = nI a ∧ a ≤ 9
  rw [if_pos hi]
  split
  · rw [a3]
    split
    · rename_i z
      refine ⟨a + 1, nI_1 a, ?_⟩
      by_cases e : a = 9
      · subst e; exact absurd z (by decide)
      · omega
    · exact ⟨a, rfl, a4⟩
  · exact ⟨0, rfl, by omega⟩
theorem v_bn_ok {σ : s_D} {cnt cp : Nat} (ok : d_ok σ cnt cp) : ∀ k, d_ok (v_bn σ cnt cp k) cnt cp
  | 0 => ok
  | k + 1 => (v_bn_ok ok k).bk _
theorem d_eq.bk {cnt : Nat} {σ τ : s_D} (q : d_eq cnt σ τ) (set : Int32) : d_eq cnt (d_bk σ set cnt) (d_bk τ set cnt) := by
  refine ⟨fun k hk => ?_, fun f hf i hi => ?_⟩
  · show d_mk (σ.2 0) (σ.2 1) (σ.2 2 + 1) (σ.2 3 + d_tot (σ.1 0) set cnt) (σ.2 4 + d_tot (d_wt σ) set cnt) k = d_mk (τ.2 0) (τ.2 1) (τ.2 2 + 1) (τ.2 3 + d_tot (τ.1 0) set cnt) (τ.2 4 + d_tot (d_wt τ) set cnt) k
    rw [q.1 0 (by omega), q.1 1 (by omega), q.1 2 (by omega), q.1 3 (by omega), q.1 4 (by omega), d_tot_eq (fun i hi => q.2 0 (by omega) i hi) cnt (Nat.le_refl _), d_tot_eq (fun i hi => q.wt hi) cnt (Nat.le_refl _)]
  · match f, hf with
    | 0, _ => exact q.2 0 (by omega) i hi
    | 1, _ => exact q.2 1 (by omega) i hi
    | 2, _ =>
      show d_ag (σ.1 2) set cnt i = d_ag (τ.1 2) set cnt i
      simp only [d_ag, q.2 2 (by omega) i hi]
    | 3, _ => exact q.2 3 (by omega) i hi
theorem d_eq.tk {cnt cp : Nat} {σ τ : s_D} (q : d_eq cnt σ τ) : v_tk σ cnt cp = v_tk τ cnt cp := by
  unfold v_tk
  rw [q.best]
theorem d_eq.bn {cnt cp : Nat} {σ τ : s_D} (q : d_eq cnt σ τ) : ∀ k, d_eq cnt (v_bn σ cnt cp k) (v_bn τ cnt cp k)
  | 0 => q
  | k + 1 => by
    show d_eq cnt (d_bk _ _ cnt) (d_bk _ _ cnt)
    rw [(q.bn k).tk]
    exact (q.bn k).bk _
theorem d_eq.un {cnt cp : Nat} {σ τ : s_D} (q : d_eq cnt σ τ) : ∀ k, v_un σ cnt cp k = v_un τ cnt cp k
  | 0 => rfl
  | k + 1 => by
    unfold v_un
    rw [q.un k, (q.bn k).tk]
theorem s_off.sy {h h1 : s_H} {a b : Nat} (q : s_off h h1 a b) : s_off h1 h a b := fun j hj => (q j hj).symm
theorem s_off2.mid {h h1 : s_H} {a e c g : Nat} (z : s_off2 h h1 a e c g) (hac : e ≤ c) : ∃ hm, s_off h hm a e ∧ s_off hm h1 c g := by
  refine ⟨fun j => if a ≤ j ∧ j < e then h1 j else h j, fun j hj => if_neg (by omega), fun j hj => ?_⟩
  by_cases q : a ≤ j ∧ j < e
  · exact (if_pos q).symm
  · show h1 j = if _ then _ else _
    rw [if_neg q]
    exact z j (by omega) (by omega)
theorem s_pl.disk2 {h h1 : s_H} {b : Nat} {π : s_Pl} {σ : s_D} (q : s_pl h b π) (z : s_off2 h h1 (b + 1) (b + 6) (b + 68) (b + 87)) (hd : s_disk h1 (b + 1) σ) (ht : s_t0 h1 (b + 68)) : s_pl h1 b (σ, π.2) := by
  obtain ⟨hm, z1, z2⟩ := z.mid (by omega)
  exact (q.disk z1 (hd.off z2.sy (by omega))).tab z2 ht
theorem s_pl.trial2 {h h1 : s_H} {b : Nat} {π : s_Pl} {σ : s_D} (q : s_pl h b π) (z : s_off2 h h1 (b + 6) (b + 11) (b + 68) (b + 87)) (hd : s_disk h1 (b + 6) σ) (ht : s_t0 h1 (b + 68)) : s_pl h1 b π := by
  obtain ⟨hm, z1, z2⟩ := z.mid (by omega)
  exact (q.trial z1 (hd.off z2.sy (by omega))).tab z2 ht
theorem s_off2.one {h h1 : s_H} {a b c e x y : Nat} (q : s_off2 h h1 a b c e) (h1' : x ≤ a) (h2 : b ≤ y) (h3 : x ≤ c) (h4 : e ≤ y) : s_off h h1 x y := fun j hj => q j (by omega) (by omega)
/-- what a backup does, with the best rank named -/
theorem c_bk {h : s_H} {n t d cnt cp : Nat} {σ : s_D} (hT : s_t0 h t) (hD : s_disk h d σ) (hn : t + 18 < n) (hnd : d + 4 < n) (hdt : d + 5 ≤ t ∨ t + 19 ≤ d) (ok : d_ok σ cnt cp) : s_Mt TX2_backUp 0 0 [.ref d, .ref t] h n (s_rp n (fun v9 h1 => v9 = some (.int (v_tk σ cnt cp)) ∧ s_disk h1 d (d_bk σ (v_tk σ cnt cp) cnt) ∧ s_t0 h1 t ∧ s_off2 h h1 d (d + 5) t (t + 19)) s_no) := by
  obtain ⟨τ, hTt, hT0⟩ := hT
  have hcp := ok.2.2.2.1
  have e : d_tk σ τ cp cnt = v_tk σ cnt cp := by
    unfold d_tk v_tk
    rw [u_best_of ok (u_z hT0 hcp) (Nat.le_refl _) hcp]
  have M := c_X2_backUp hTt hD hn hnd hdt ok.1 ok.2.1 ok.2.2.1 (by omega) ok.sz (u_hzb ok (u_z hT0 hcp) hcp)
  rw [e] at M
  exact s_Mt_mono M (fun o h1 n1 q => ⟨q.1, by
    rcases o with r | E
    · exact ⟨q.2.1, q.2.2.1, u_t0 q.2.2.2.1 hT0, q.2.2.2.2⟩
    · exact q.2⟩)

def pl_rem (π : s_Pl) : s_Pl := (π.1, π.2.1, π.2.2.1, hp_D π.2.2.2.1 π.2.2.2.2.1 π.1, hp_l π.2.2.2.2.1 + 1, π.2.2.2.2.2)
/-- what the last of k backups has taken -/
noncomputable def v_lt (σ : s_D) (cnt cp : Nat) : Nat → Int32
  | 0 => 0
  | k + 1 => v_tk (v_bn σ cnt cp k) cnt cp
/-- the first backup from the one behind k on that takes an item -/
noncomputable def v_bu (σ : s_D) (cnt cp i : Nat) : Nat → Nat → Int32
  | 0, _ => -1
  | f + 1, k => if s_bit (v_tk (v_bn σ cnt cp k) cnt cp) (nI i) = 0 then v_bu σ cnt cp i f (k + 1) else nI (k + 1)
theorem d_eq.bu {cnt cp i : Nat} {σ τ : s_D} (q : d_eq cnt σ τ) : ∀ f k, v_bu σ cnt cp i f k = v_bu τ cnt cp i f k
  | 0, _ => rfl
  | f + 1, k => by
    unfold v_bu
    rw [(q.bn k).tk, q.bu f (k + 1)]
theorem d_eq.lt {cnt cp : Nat} {σ τ : s_D} (q : d_eq cnt σ τ) : ∀ k, v_lt σ cnt cp k = v_lt τ cnt cp k
  | 0 => rfl
  | k + 1 => (q.bn k).tk

theorem c_X8_backUpAll {h : s_H} {n b d m cnt cp : Nat} {sv : Int32} {σ : s_D} (hb : s_po h b sv) (hT : s_t0 h (b + 68)) (hDd : s_disk h d σ) (okd : d_ok σ cnt cp) (hn : b + 93 ≤ n) (hd68 : d + 5 ≤ b + 68) (hbd : b < d) (hm : m < 2147483648) : s_Mt TX8_backUpAll 0 0 [.ref b, .ref d, .int (nI m)] h n (s_rp n (fun v9 h1 => v9 = some (.int (v_un σ cnt cp m)) ∧ s_disk h1 d (v_bn σ cnt cp m) ∧ s_t0 h1 (b + 68) ∧ s_off2 h h1 d (d + 5) (b + 68) (b + 87)) s_no) := by
  have loop : ∀ (r k : Nat) (h' : s_H), k + r = m → s_po h' b sv → s_disk h' d (v_bn σ cnt cp k) → s_t0 h' (b + 68) → s_off2 h h' d (d + 5) (b + 68) (b + 87) → s_G TX8_backUpAll (s_rp n (fun v9 h1 => v9 = some (.int (v_un σ cnt cp m)) ∧ s_disk h1 d (v_bn σ cnt cp m) ∧ s_t0 h1 (b + 68) ∧ s_off2 h h1 d (d + 5) (b + 68) (b + 87)) s_no) 5 (s_lvs [(0, .ref b), (1, .ref d), (2, .int (nI m)), (3, .int (v_un σ cnt cp k)), (4, .int (nI k))]) [] h' n 0 0 := by
    intro r
    induction r with
    | zero =>
      intro k h' hk hb hD hT hoff
      obtain rfl : k = m := by omega
      have hdd := hD.1
      unfold s_po at hb
      refine g_iload dX8_backUpAll_5 (by rfl) ?_
      refine g_iload_n dX8_backUpAll_7 rfl (by rfl) ?_
      refine g_icmp_ge (tgt := 28) dX8_backUpAll_8 (by decide) (fun _ => ?_) (fun c_8 => absurd (nI_le (Nat.le_refl _) hm) c_8)
      refine g_iload_n dX8_backUpAll_28 rfl (by rfl) ?_
      refine g_ireturn dX8_backUpAll_29 rfl ?_
      exact ⟨rfl, rfl, hD, hT, hoff⟩
    | succ r ih =>
      intro k h' hk hb hD hT hoff
      have hdd := hD.1
      unfold s_po at hb
      refine g_iload dX8_backUpAll_5 (by rfl) ?_
      refine g_iload_n dX8_backUpAll_7 rfl (by rfl) ?_
      refine g_icmp_ge (tgt := 28) dX8_backUpAll_8 (by decide) (fun c_8 => absurd c_8 (nI_ge (by omega) hm)) (fun _ => ?_)
      refine g_iload_n dX8_backUpAll_11 rfl (by rfl) ?_
      refine g_aload_n dX8_backUpAll_12 rfl (by rfl) ?_
      refine g_aload_n dX8_backUpAll_13 rfl (by rfl) ?_
      refine g_getf dX8_backUpAll_14 fX8_36 (by exact hb) (by omega) (by rfl) ?_
      refine g_callV_p (c_bk hT hD (by omega) (by omega) (by omega) (v_bn_ok okd k)) dX8_backUpAll_17 (mX2_backUp) rfl lX8_142 iX2_backUp vX2_backUp (by decide) (by omega) (by exact hdd) rfl rfl rfl rfl (Nat.le_of_ble_eq_true rfl) (fun v9 h9 z9 => ?_)
      obtain ⟨rfl, qd, qt, qoff⟩ := z9
      refine g_ior dX8_backUpAll_20 ?_
      refine g_istore_n dX8_backUpAll_21 rfl (by decide) ?_
      refine g_iinc (nI (k + 1)) dX8_backUpAll_22 (by rfl) (nI_inc k) ?_
      refine g_goto (tgt := 5) dX8_backUpAll_25 (by decide) ?_
      exact g_lv (ih (k + 1) h9 (by omega) ((qoff b (by omega) (by omega)).trans hb) qd qt (hoff.trans qoff)) ⟨rfl, rfl, rfl, rfl, rfl, trivial⟩
  refine s_Mt_of rfl (by decide) (by exact Nat.le_of_ble_eq_true rfl) ?_
  refine g_iconst 0 dX8_backUpAll_0 (by rfl) ?_
  refine g_istore_n dX8_backUpAll_1 rfl (by decide) ?_
  refine g_iconst 0 dX8_backUpAll_2 (by rfl) ?_
  refine g_istore dX8_backUpAll_3 (by decide) ?_
  exact g_lv (loop m 0 h (by omega) hb hDd hT (fun _ _ _ => rfl)) ⟨rfl, rfl, rfl, rfl, rfl, trivial⟩

theorem c_X8_runBackup {h : s_H} {n b : Nat} {π : s_Pl} (hP : s_pl h b π) (hn : b + 93 ≤ n) {cnt cp : Nat} (ok : d_ok π.1 cnt cp) (hl : π.2.2.2.2.1 ≤ 10) : s_Mt TX8_runBackup 0 0 [.ref b] h n (s_rp n (fun v9 h1 => v9 = some (.int (v_tk π.1 cnt cp)) ∧ s_pl h1 b (d_bk π.1 (v_tk π.1 cnt cp) cnt, (pl_rem π).2) ∧ s_off h h1 b (b + 93)) s_no) := by
  obtain ⟨hb, hD, hS, ⟨σt, hDt⟩, ⟨pm, hH⟩, hT, ⟨go, gl, hG, hgl, hgo⟩, ⟨nx, tk, ts, ex, hsc⟩, hR⟩ := id hP
  obtain ⟨τ, hTt, hT0⟩ := id hT
  unfold s_po at hb
  have hd := hD.1
  have hs := hsc.1
  have hk := hH.1
  have ht := hTt.1
  have hg := hG.1
  have hr := hR.1
  have htd := hDt.1
  have hsd := hS.1
  have q1 := hD.2.1
  have q2 := hD.2.2.1
  have q3 := hD.2.2.2.1
  have q4 := hD.2.2.2.2
  have u1 := hDt.2.1
  have u2 := hDt.2.2.1
  have u3 := hDt.2.2.2.1
  have u4 := hDt.2.2.2.2
  rw [ok.1, ok.2.2.1] at hd
  have hoff : s_off h h b (b + 93) := s_off.rf
  refine s_Mt_of rfl (by decide) (by exact Nat.le_of_ble_eq_true rfl) ?_
  refine g_aload_n dX8_runBackup_0 rfl (by rfl) ?_
  refine g_getf dX8_runBackup_1 fX8_29 (by exact hb) (by omega) (by rfl) ?_
  refine g_aload_n dX8_runBackup_4 rfl (by rfl) ?_
  refine g_getf dX8_runBackup_5 fX8_12 (by exact hb) (by omega) (by rfl) ?_
  refine g_callV_p (c_X4_remember hH (by omega) hD (by omega) (by omega) hl) dX8_runBackup_8 (mX4_remember) rfl lX8_92 iX4_remember vX4_remember (by decide) (by omega) (by exact hk) rfl rfl rfl rfl (Nat.le_of_ble_eq_true rfl) (fun v9 h9 z9 => ?_)
  obtain ⟨rfl, qh, qoff⟩ := z9
  have hP : s_pl h9 b (pl_rem π) := hP.hist qoff qh
  have hoff := hoff.trans (qoff.wide (a := _) (b := _) (a' := b) (b' := b + 93) (by omega) (by omega))
  have ok : d_ok (pl_rem π).1 cnt cp := ok
  obtain ⟨hb, hD, hS, ⟨σt, hDt⟩, ⟨pm, hH⟩, hT, ⟨go, gl, hG, hgl, hgo⟩, ⟨nx, tk, ts, ex, hsc⟩, hR⟩ := id hP
  obtain ⟨τ, hTt, hT0⟩ := id hT
  unfold s_po at hb
  have hd := hD.1
  have hs := hsc.1
  have hk := hH.1
  have ht := hTt.1
  have hg := hG.1
  have hr := hR.1
  have htd := hDt.1
  have hsd := hS.1
  have q1 := hD.2.1
  have q2 := hD.2.2.1
  have q3 := hD.2.2.2.1
  have q4 := hD.2.2.2.2
  have u1 := hDt.2.1
  have u2 := hDt.2.2.1
  have u3 := hDt.2.2.2.1
  have u4 := hDt.2.2.2.2
  rw [ok.1, ok.2.2.1] at hd
  refine g_aload_n dX8_runBackup_11 rfl (by rfl) ?_
  refine g_getf dX8_runBackup_12 fX8_12 (by exact hb) (by omega) (by rfl) ?_
  refine g_aload_n dX8_runBackup_15 rfl (by rfl) ?_
  refine g_getf dX8_runBackup_16 fX8_36 (by exact hb) (by omega) (by rfl) ?_
  refine g_callV_p (c_bk hT hD (by omega) (by omega) (by omega) ok) dX8_runBackup_19 (mX2_backUp) rfl lX8_142 iX2_backUp vX2_backUp (by decide) (by omega) (by first | exact hd | exact htd | exact hsd) rfl rfl rfl rfl (Nat.le_of_ble_eq_true rfl) (fun v9 h9 z9 => ?_)
  obtain ⟨rfl, qd, qt, qoff⟩ := z9
  have hP := hP.disk2 qoff qd qt
  have qoff := qoff.one (x := b) (y := b + 93) (by omega) (by omega) (by omega) (by omega)
  have hoff := hoff.trans (qoff.wide (a := _) (b := _) (a' := b) (b' := b + 93) (by omega) (by omega))
  refine g_ireturn dX8_runBackup_22 rfl ?_
  exact ⟨rfl, rfl, hP, hoff⟩

theorem c_X8_runBackups {h : s_H} {n b : Nat} {π : s_Pl} (hP : s_pl h b π) (hn : b + 93 ≤ n) {cnt cp : Nat} (ok : d_ok π.1 cnt cp) (hl : π.2.2.2.2.1 ≤ 10) (x : Int32) : s_Mt TX8_runBackups 1 6 [.ref b, .int x] h n (s_rp n (fun v9 h1 => v9 = some (.int (s_bc (v_un π.1 cnt cp x.toNatClampNeg))) ∧ s_pl h1 b (v_bn π.1 cnt cp x.toNatClampNeg, (pl_rem π).2) ∧ s_off h h1 b (b + 93) ∧ ¬ (x < 1 ∨ 50 < x)) (fun E h1 => E = "java/lang/IllegalArgumentException" ∧ h1 = h ∧ ¬ ¬ (x < 1 ∨ 50 < x))) := by
  obtain ⟨hb, hD, hS, ⟨σt, hDt⟩, ⟨pm, hH⟩, hT, ⟨go, gl, hG, hgl, hgo⟩, ⟨nx, tk, ts, ex, hsc⟩, hR⟩ := id hP
  obtain ⟨τ, hTt, hT0⟩ := id hT
  unfold s_po at hb
  have hd := hD.1
  have hs := hsc.1
  have hk := hH.1
  have ht := hTt.1
  have hg := hG.1
  have hr := hR.1
  have htd := hDt.1
  have hsd := hS.1
  have q1 := hD.2.1
  have q2 := hD.2.2.1
  have q3 := hD.2.2.2.1
  have q4 := hD.2.2.2.2
  have u1 := hDt.2.1
  have u2 := hDt.2.2.1
  have u3 := hDt.2.2.2.1
  have u4 := hDt.2.2.2.2
  rw [ok.1, ok.2.2.1] at hd
  have hoff : s_off h h b (b + 93) := s_off.rf
  refine s_Mt_of rfl (by decide) (by exact Nat.le_of_ble_eq_true rfl) ?_
  refine g_iload_n dX8_runBackups_0 rfl (by rfl) ?_
  refine g_iconst 1 dX8_runBackups_1 (by rfl) ?_
  refine g_bipush 50 dX8_runBackups_2 (by rfl) ?_
  refine g_callS_x (c_X8_requireWithin x 1 50) dX8_runBackups_4 (mX8_requireWithin) rfl lX8_80 sX8_requireWithin (by decide) rfl rfl (Nat.le_of_ble_eq_true rfl) (Nat.le_of_ble_eq_true rfl) (Nat.le_of_ble_eq_true rfl) (fun v9 h9 z9 => ?_) (fun E9 h9 z9 => gx_out rfl ⟨rfl, z9.1, z9.2.1, fun z => z z9.2.2⟩)
  obtain ⟨rfl, hh, hin⟩ := z9
  have hh := hh.symm
  subst hh
  obtain ⟨m, hm, rfl⟩ := nI_of (x := x) (fun z => hin (Or.inl (by rw [Int32.lt_iff_toInt_lt] at z ⊢; exact Int.lt_trans z (by decide))))
  have hm50 : m ≤ 50 := Nat.le_of_not_lt fun z => hin (Or.inr (nI_lt z hm))
  have hm1 : 1 ≤ m := Nat.pos_of_ne_zero fun z => hin (Or.inl (by rw [z]; decide))
  refine g_aload_n dX8_runBackups_7 rfl (by rfl) ?_
  refine g_getf dX8_runBackups_8 fX8_29 (by exact hb) (by omega) (by rfl) ?_
  refine g_aload_n dX8_runBackups_11 rfl (by rfl) ?_
  refine g_getf dX8_runBackups_12 fX8_12 (by exact hb) (by omega) (by rfl) ?_
  refine g_callV_p (c_X4_remember hH (by omega) hD (by omega) (by omega) hl) dX8_runBackups_15 (mX4_remember) rfl lX8_92 iX4_remember vX4_remember (by decide) (by omega) (by exact hk) rfl rfl rfl rfl (Nat.le_of_ble_eq_true rfl) (fun v9 h9 z9 => ?_)
  obtain ⟨rfl, qh, qoff⟩ := z9
  have hP : s_pl h9 b (pl_rem π) := hP.hist qoff qh
  have hoff := hoff.trans (qoff.wide (a := _) (b := _) (a' := b) (b' := b + 93) (by omega) (by omega))
  have ok : d_ok (pl_rem π).1 cnt cp := ok
  obtain ⟨hb, hD, hS, ⟨σt, hDt⟩, ⟨pm, hH⟩, hT, ⟨go, gl, hG, hgl, hgo⟩, ⟨nx, tk, ts, ex, hsc⟩, hR⟩ := id hP
  obtain ⟨τ, hTt, hT0⟩ := id hT
  unfold s_po at hb
  have hd := hD.1
  have hs := hsc.1
  have hk := hH.1
  have ht := hTt.1
  have hg := hG.1
  have hr := hR.1
  have htd := hDt.1
  have hsd := hS.1
  have q1 := hD.2.1
  have q2 := hD.2.2.1
  have q3 := hD.2.2.2.1
  have q4 := hD.2.2.2.2
  have u1 := hDt.2.1
  have u2 := hDt.2.2.1
  have u3 := hDt.2.2.2.1
  have u4 := hDt.2.2.2.2
  rw [ok.1, ok.2.2.1] at hd
  refine g_aload_n dX8_runBackups_18 rfl (by rfl) ?_
  refine g_aload_n dX8_runBackups_19 rfl (by rfl) ?_
  refine g_getf dX8_runBackups_20 fX8_12 (by exact hb) (by omega) (by rfl) ?_
  refine g_iload_n dX8_runBackups_23 rfl (by rfl) ?_
  refine g_callV_p (c_X8_backUpAll (m := m) hb hT hD ok hn (by omega) (by omega) (by omega)) dX8_runBackups_24 (mX8_backUpAll) rfl lX8_146 iX8_backUpAll vX8_backUpAll (by decide) (by omega) (by exact hb) rfl rfl rfl rfl (Nat.le_of_ble_eq_true rfl) (fun v9 h9 z9 => ?_)
  obtain ⟨rfl, qd, qt, qoff⟩ := z9
  have hP := hP.disk2 qoff qd qt
  have qoff := qoff.one (x := b) (y := b + 93) (by omega) (by omega) (by omega) (by omega)
  have hoff := hoff.trans (qoff.wide (a := _) (b := _) (a' := b) (b' := b + 93) (by omega) (by omega))
  obtain ⟨hb, hD, hS, ⟨σt, hDt⟩, ⟨pm, hH⟩, hT, ⟨go, gl, hG, hgl, hgo⟩, ⟨nx, tk, ts, ex, hsc⟩, hR⟩ := id hP
  obtain ⟨τ, hTt, hT0⟩ := id hT
  unfold s_po at hb
  have hd := hD.1
  have hs := hsc.1
  have hk := hH.1
  have ht := hTt.1
  have hg := hG.1
  have hr := hR.1
  have htd := hDt.1
  have hsd := hS.1
  have q1 := hD.2.1
  have q2 := hD.2.2.1
  have q3 := hD.2.2.2.1
  have q4 := hD.2.2.2.2
  have u1 := hDt.2.1
  have u2 := hDt.2.2.1
  have u3 := hDt.2.2.2.1
  have u4 := hDt.2.2.2.2
  refine g_callS_e (c_bit _) dX8_runBackups_27 (mJ6_bitCount_0f7a4) rfl lX8_150 sJ6_bitCount_0f7a4 (by decide) rfl rfl (Nat.le_of_ble_eq_true rfl) ?_
  refine g_ireturn dX8_runBackups_30 rfl ?_
  exact ⟨rfl, by rw [nI_clamp (by omega)]; rfl, by rw [nI_clamp (by omega)]; exact hP, hoff, hin⟩
