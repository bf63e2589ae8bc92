/-! THE COMPONENT: undo, snapshot, input, ratios, checks -/
theorem f_dd (a : Int32) {b : Int32} (hb : b ≠ 0) : vf_n64 (FP.ddiv (FP.i2d a) (FP.i2d b)) := Jvm.Free.Fl.ddiv_out (Jvm.Free.Fl.Fin64.noNaN (Jvm.Free.Fl.i2d_fin a)) (Jvm.Free.Fl.i2d_fin b) ((Jvm.Free.Fl.nz64_iff _).mpr (FP.Core.i2d_ne_zero hb))
theorem f_ff (a : Int32) {b : Int32} (hb : b ≠ 0) : vf_n32 (FP.fdiv (FP.i2f a) (FP.i2f b)) := Jvm.Free.Fl.fdiv_out (Jvm.Free.Fl.Fin32.noNaN (Jvm.Free.Fl.i2f_fin a)) (Jvm.Free.Fl.i2f_fin b) ((Jvm.Free.Fl.nz32_iff _).mpr (FP.Core.i2f_ne_zero hb))
theorem nI_mul (a b : Nat) : nI a * nI b = nI (a * b) := by
  apply Int32.toBitVec_inj.mp
  rw [Int32.toBitVec_mul]
  show BitVec.ofNat 32 a * BitVec.ofNat 32 b = BitVec.ofNat 32 (a * b)
  apply BitVec.eq_of_toNat_eq
  rw [BitVec.toNat_mul, BitVec.toNat_ofNat, BitVec.toNat_ofNat, BitVec.toNat_ofNat, ← Nat.mul_mod]
/-- the four bytes of an int, behind the text -/
def a_sh : Nat → Int32
  | 0 => 24
  | 1 => 16
  | 2 => 8
  | 3 => 0
  | _ => -8
def a_by (tx : Nat → Int32) (len : Nat) (x : Int32) : Nat → (Nat → Int32)
  | 0 => tx
  | k + 1 => upd (a_by tx len x k) (len + k) (p_by (x >>> (a_sh k &&& 31)))
theorem a_sh_s : ∀ k, k < 4 → a_sh k + Int32.ofInt (-8) = a_sh (k + 1) := by decide
theorem a_sh_p : ∀ k, k < 4 → ¬ a_sh k < 0 := by decide

theorem c_X8_undo {h : s_H} {n b : Nat} {σ : s_D} {σs : s_D} {sv : Int32} {D : Nat → s_D} {l : Nat} {πr : (Nat → Int32) × Nat × Int32 × Int32 × List Int32} (hP : s_pl h b (σ, σs, sv, D, l + 1, πr)) (hn : b + 93 ≤ n) (hl : l < 10) : s_Mt TX8_undo 0 0 [.ref b] h n (s_rp n (fun v9 h1 => v9 = some (.int (nI l)) ∧ s_pl h1 b (d_cpy (D l) σ, σs, sv, D, l, πr) ∧ s_off h h1 b (b + 93)) s_no) := by
  obtain ⟨hb, hD, hS, ⟨σt, hDt⟩, ⟨pm, hH⟩, hT, ⟨go, gl, hG, hgl, hgo⟩, ⟨nx, tk, ts, ex, hsc⟩, hR⟩ := id hP
  obtain ⟨τ, hTt, hT0⟩ := id hT
  unfold s_po at hb
  have hd := hD.1
  have hs := hsc.1
  have hk := hH.1
  have ht := hTt.1
  have hg := hG.1
  have hr := hR.1
  have htd := hDt.1
  have hsd := hS.1
  have q1 := hD.2.1
  have q2 := hD.2.2.1
  have q3 := hD.2.2.2.1
  have q4 := hD.2.2.2.2
  have u1 := hDt.2.1
  have u2 := hDt.2.2.1
  have u3 := hDt.2.2.2.1
  have u4 := hDt.2.2.2.2
  have hoff : s_off h h b (b + 93) := s_off.rf
  refine s_Mt_of rfl (by decide) (by exact Nat.le_of_ble_eq_true rfl) ?_
  refine g_aload_n dX8_undo_0 rfl (by rfl) ?_
  refine g_getf dX8_undo_1 fX8_29 (by exact hb) (by omega) (by rfl) ?_
  refine g_getf dX8_undo_4 fX8_155 (by exact hk) (by omega) (by rfl) ?_
  refine g_if_ne (tgt := 12) dX8_undo_7 (by decide) (fun _ => ?_) (fun c_7 => absurd c_7 (show ¬ nI (l + 1) = 0 from fun z => by have := nI_inj (a := l + 1) (b := 0) (by omega) (by omega) z; omega))
  refine g_aload_n dX8_undo_12 rfl (by rfl) ?_
  refine g_getf dX8_undo_13 fX8_29 (by exact hb) (by omega) (by rfl) ?_
  refine g_aload_n dX8_undo_16 rfl (by rfl) ?_
  refine g_getf dX8_undo_17 fX8_12 (by exact hb) (by omega) (by rfl) ?_
  refine g_callV_p (c_X4_takeBack (len := l) hH (by omega) hD (by omega) (by omega) (by omega)) dX8_undo_20 (mX4_takeBack) rfl lX8_156 iX4_takeBack vX4_takeBack (by decide) (by omega) (by exact hk) rfl rfl rfl rfl (Nat.le_of_ble_eq_true rfl) (fun v9 h9 z9 => ?_)
  obtain ⟨rfl, qh, qd, qoff⟩ := z9
  obtain ⟨hm, z1, z2⟩ := qoff.flip.mid (by omega)
  have hP := (hP.disk z1 (qd.off z2.sy (by omega))).hist z2 qh
  have qoff := qoff.one (x := b) (y := b + 93) (by omega) (by omega) (by omega) (by omega)
  have hoff := hoff.trans (qoff.wide (a := _) (b := _) (a' := b) (b' := b + 93) (by omega) (by omega))
  obtain ⟨hb, hD, hS, ⟨σt, hDt⟩, ⟨pm, hH⟩, hT, ⟨go, gl, hG, hgl, hgo⟩, ⟨nx, tk, ts, ex, hsc⟩, hR⟩ := id hP
  obtain ⟨τ, hTt, hT0⟩ := id hT
  unfold s_po at hb
  have hd := hD.1
  have hs := hsc.1
  have hk := hH.1
  have ht := hTt.1
  have hg := hG.1
  have hr := hR.1
  have htd := hDt.1
  have hsd := hS.1
  have q1 := hD.2.1
  have q2 := hD.2.2.1
  have q3 := hD.2.2.2.1
  have q4 := hD.2.2.2.2
  have u1 := hDt.2.1
  have u2 := hDt.2.2.1
  have u3 := hDt.2.2.2.1
  have u4 := hDt.2.2.2.2
  refine g_aload_n dX8_undo_23 rfl (by rfl) ?_
  refine g_getf dX8_undo_24 fX8_29 (by exact hb) (by omega) (by rfl) ?_
  refine g_getf dX8_undo_27 fX8_155 (by exact hk) (by omega) (by rfl) ?_
  refine g_ireturn dX8_undo_30 rfl ?_
  exact ⟨rfl, rfl, hP, hoff⟩

theorem c_X8_undo0 {h : s_H} {n b : Nat} {π : s_Pl} (hP : s_pl h b π) (hn : b + 93 ≤ n) (hl : π.2.2.2.2.1 = 0) : s_Mt TX8_undo 0 0 [.ref b] h n (s_rp n (fun v9 h1 => v9 = some (.int (-1)) ∧ s_pl h1 b π ∧ s_off h h1 b (b + 93)) s_no) := by
  obtain ⟨hb, hD, hS, ⟨σt, hDt⟩, ⟨pm, hH⟩, hT, ⟨go, gl, hG, hgl, hgo⟩, ⟨nx, tk, ts, ex, hsc⟩, hR⟩ := id hP
  obtain ⟨τ, hTt, hT0⟩ := id hT
  unfold s_po at hb
  have hd := hD.1
  have hs := hsc.1
  have hk := hH.1
  have ht := hTt.1
  have hg := hG.1
  have hr := hR.1
  have htd := hDt.1
  have hsd := hS.1
  have q1 := hD.2.1
  have q2 := hD.2.2.1
  have q3 := hD.2.2.2.1
  have q4 := hD.2.2.2.2
  have u1 := hDt.2.1
  have u2 := hDt.2.2.1
  have u3 := hDt.2.2.2.1
  have u4 := hDt.2.2.2.2
  have hoff : s_off h h b (b + 93) := s_off.rf
  have hl0 : nI π.2.2.2.2.1 = 0 := by rw [hl]; rfl
  refine s_Mt_of rfl (by decide) (by exact Nat.le_of_ble_eq_true rfl) ?_
  refine g_aload_n dX8_undo_0 rfl (by rfl) ?_
  refine g_getf dX8_undo_1 fX8_29 (by exact hb) (by omega) (by rfl) ?_
  refine g_getf dX8_undo_4 fX8_155 (by exact hk) (by omega) (by rfl) ?_
  refine g_if_ne (tgt := 12) dX8_undo_7 (by decide) (fun c_7 => absurd hl0 c_7) (fun _ => ?_)
  refine g_iconst (-1) dX8_undo_10 (by rfl) ?_
  refine g_ireturn dX8_undo_11 rfl ?_
  exact ⟨rfl, rfl, hP, hoff⟩

theorem c_X6_addBytes {h : s_H} {n s len : Nat} {tx : Nat → Int32} {ek eo nx tk ts ex : Int32} (hsc : s_sc h s tx len ek eo nx tk ts ex) (hn : s + 1 < n) (hl : len + 4 ≤ 500) (x : Int32) : s_Mt TX6_addBytes 0 0 [.ref s, .int x] h n (s_rp n (fun v9 h1 => v9 = none ∧ s_sc h1 s (a_by tx len x 4) (len + 4) ek eo nx tk ts ex ∧ s_off h h1 s (s + 2)) s_no) := by
  obtain ⟨hs, hx⟩ := hsc
  have loop : ∀ (r k : Nat) (h' : s_H), k + r = 4 → h' s = .inr (4, [.ref (s + 1), .int (nI (len + k)), .int ek, .int eo, .int nx, .int tk, .int ts, .int ex]) → h' (s + 1) = .inl (2, 500, .inl (a_by tx len x k)) → s_off h h' s (s + 2) → s_G TX6_addBytes (s_rp n (fun v9 h1 => v9 = none ∧ s_sc h1 s (a_by tx len x 4) (len + 4) ek eo nx tk ts ex ∧ s_off h h1 s (s + 2)) s_no) 3 (s_lvs [(0, .ref s), (1, .int x), (2, .int (a_sh k))]) [] h' n 0 0 := by
    intro r
    induction r with
    | zero =>
      intro k h' hk hs hx hoff
      obtain rfl : k = 4 := by omega
      refine g_iload_n dX6_addBytes_3 rfl (by rfl) ?_
      refine g_if_lt (tgt := 46) dX6_addBytes_4 (by decide) (fun _ => ?_) (fun c_4 => absurd (show a_sh 4 < 0 by decide) c_4)
      refine g_vreturn dX6_addBytes_46 rfl ?_
      exact ⟨rfl, rfl, ⟨hs, hx⟩, hoff⟩
    | succ r ih =>
      intro k h' hk hs hx hoff
      refine g_iload_n dX6_addBytes_3 rfl (by rfl) ?_
      refine g_if_lt (tgt := 46) dX6_addBytes_4 (by decide) (fun c_4 => absurd c_4 (a_sh_p k (by omega))) (fun _ => ?_)
      refine g_aload_n dX6_addBytes_7 rfl (by rfl) ?_
      refine g_getf dX6_addBytes_8 fX6_15 (by exact hs) (by omega) (by rfl) ?_
      refine g_sipush 500 dX6_addBytes_11 (by rfl) ?_
      refine g_icmp_ge (tgt := 40) dX6_addBytes_14 (by decide) (fun c_14 => absurd c_14 (show ¬ nI 500 ≤ nI (len + k) from nI_ge (by omega) (by omega))) (fun _ => ?_)
      refine g_aload_n dX6_addBytes_17 rfl (by rfl) ?_
      refine g_getf dX6_addBytes_18 fX6_9 (by exact hs) (by omega) (by rfl) ?_
      refine g_aload_n dX6_addBytes_21 rfl (by rfl) ?_
      refine g_getf dX6_addBytes_22 fX6_15 (by exact hs) (by omega) (by rfl) ?_
      refine g_iload_n dX6_addBytes_25 rfl (by rfl) ?_
      refine g_iload_n dX6_addBytes_26 rfl (by rfl) ?_
      refine g_ishr dX6_addBytes_27 ?_
      refine g_i2b dX6_addBytes_28 ?_
      refine g_bast' dX6_addBytes_29 (by exact hx) (by omega) (by rfl) (by omega) (by omega) (fun h1 e1 => ?_)
      first | have hs_1 := s_up_off e1 (by omega) hs | have hs_1 := s_up_at e1
      first | have hx_1 := s_up_off e1 (by omega) hx | have hx_1 := s_up_at e1
      refine g_aload_n dX6_addBytes_30 rfl (by rfl) ?_
      refine g_dup dX6_addBytes_31 (by rfl) ?_
      refine g_getf dX6_addBytes_32 fX6_15 (by exact hs_1) (by omega) (by rfl) ?_
      refine g_iconst 1 dX6_addBytes_35 (by rfl) ?_
      refine g_iadd dX6_addBytes_36 ?_
      rw [nI_1]
      refine g_putf' dX6_addBytes_37 pX6_15 (by exact hs_1) (by omega) (by exact Nat.le_of_ble_eq_true rfl) (by rfl) (by rfl) (fun h2 e2 => ?_)
      first | have hs_2 := s_up_off e2 (by omega) hs_1 | have hs_2 := s_up_at e2
      first | have hx_2 := s_up_off e2 (by omega) hx_1 | have hx_2 := s_up_at e2
      refine g_iinc (a_sh (k + 1)) dX6_addBytes_40 (by rfl) (a_sh_s k (by omega)) ?_
      refine g_goto (tgt := 3) dX6_addBytes_43 (by decide) ?_
      exact g_lv (ih (k + 1) h2 (by omega) hs_2 hx_2 ((hoff.up e1 (by omega)).up e2 (by omega))) ⟨rfl, rfl, rfl, trivial⟩
  refine s_Mt_of rfl (by decide) (by exact Nat.le_of_ble_eq_true rfl) ?_
  refine g_bipush 24 dX6_addBytes_0 (by rfl) ?_
  refine g_istore_n dX6_addBytes_2 rfl (by decide) ?_
  exact g_lv (loop 4 0 h (by omega) hs hx s_off.rf) ⟨rfl, rfl, rfl, trivial⟩

theorem c_X8_append {h : s_H} {n b : Nat} {π : s_Pl} (hP : s_pl h b π) (hn : b + 93 ≤ n) (hl : π.2.2.2.2.2.2.1 ≤ 500) (a c d e f : Int32) : s_Mt TX8_append 0 0 [.ref b, .int a, .int c, .int d, .int e, .int f] h n (s_rp n (fun v9 h1 => v9 = some (.int (if π.2.2.2.2.2.2.1 + 20 ≤ 500 then nI (π.2.2.2.2.2.2.1 + 20) else -2)) ∧ s_pl h1 b (if π.2.2.2.2.2.2.1 + 20 ≤ 500 then (π.1, π.2.1, π.2.2.1, π.2.2.2.1, π.2.2.2.2.1, (a_by (a_by (a_by (a_by (a_by π.2.2.2.2.2.1 π.2.2.2.2.2.2.1 a 4) (π.2.2.2.2.2.2.1 + 4) c 4) (π.2.2.2.2.2.2.1 + 8) d 4) (π.2.2.2.2.2.2.1 + 12) e 4) (π.2.2.2.2.2.2.1 + 16) f 4), π.2.2.2.2.2.2.1 + 20, π.2.2.2.2.2.2.2) else π) ∧ s_off h h1 b (b + 93)) s_no) := by
  obtain ⟨hb, hD, hS, ⟨σt, hDt⟩, ⟨pm, hH⟩, hT, ⟨go, gl, hG, hgl, hgo⟩, ⟨nx, tk, ts, ex, hsc⟩, hR⟩ := id hP
  obtain ⟨τ, hTt, hT0⟩ := id hT
  unfold s_po at hb
  have hd := hD.1
  have hs := hsc.1
  have hk := hH.1
  have ht := hTt.1
  have hg := hG.1
  have hr := hR.1
  have htd := hDt.1
  have hsd := hS.1
  have q1 := hD.2.1
  have q2 := hD.2.2.1
  have q3 := hD.2.2.2.1
  have q4 := hD.2.2.2.2
  have u1 := hDt.2.1
  have u2 := hDt.2.2.1
  have u3 := hDt.2.2.2.1
  have u4 := hDt.2.2.2.2
  have hoff : s_off h h b (b + 93) := s_off.rf
  refine s_Mt_of rfl (by decide) (by exact Nat.le_of_ble_eq_true rfl) ?_
  refine g_aload_n dX8_append_0 rfl (by rfl) ?_
  refine g_getf dX8_append_1 fX8_50 (by exact hb) (by omega) (by rfl) ?_
  refine g_getf dX8_append_4 fX8_73 (by exact hs) (by omega) (by rfl) ?_
  refine g_bipush 20 dX8_append_7 (by rfl) ?_
  refine g_iadd dX8_append_9 ?_
  rw [show (nI π.2.2.2.2.2.2.1 + 20 : Int32) = nI (π.2.2.2.2.2.2.1 + 20) from nI_add _ 20]
  refine g_sipush 500 dX8_append_10 (by rfl) ?_
  refine g_icmp_le (tgt := 19) dX8_append_13 (by decide) (fun c_13 => ?_) (fun c_13 => ?_)
  · have hl20 : π.2.2.2.2.2.2.1 + 20 ≤ 500 := Nat.le_of_not_lt fun z => nI_ge (b := _) (a := 500) z (by omega) c_13
    refine g_aload_n dX8_append_19 rfl (by rfl) ?_
    refine g_getf dX8_append_20 fX8_50 (by exact hb) (by omega) (by rfl) ?_
    refine g_iload_n dX8_append_23 rfl (by rfl) ?_
    refine g_callV_p (c_X6_addBytes hsc (by omega) (by omega) _) dX8_append_24 (mX6_addBytes) rfl lX8_77 iX6_addBytes vX6_addBytes (by decide) (by omega) (by exact hs) rfl rfl rfl rfl (Nat.le_of_ble_eq_true rfl) (fun v9 h9 z9 => ?_)
    obtain ⟨rfl, qs, qoff⟩ := z9
    have hP := hP.scr qoff qs
    have hoff := hoff.trans (qoff.wide (a := _) (b := _) (a' := b) (b' := b + 93) (by omega) (by omega))
    obtain ⟨hb, hD, hS, ⟨σt, hDt⟩, ⟨pm, hH⟩, hT, ⟨go, gl, hG, hgl, hgo⟩, ⟨nx, tk, ts, ex, hsc⟩, hR⟩ := id hP
    obtain ⟨τ, hTt, hT0⟩ := id hT
    unfold s_po at hb
    have hd := hD.1
    have hs := hsc.1
    have hk := hH.1
    have ht := hTt.1
    have hg := hG.1
    have hr := hR.1
    have htd := hDt.1
    have hsd := hS.1
    have q1 := hD.2.1
    have q2 := hD.2.2.1
    have q3 := hD.2.2.2.1
    have q4 := hD.2.2.2.2
    have u1 := hDt.2.1
    have u2 := hDt.2.2.1
    have u3 := hDt.2.2.2.1
    have u4 := hDt.2.2.2.2
    dsimp only at hsc hs
    refine g_aload_n dX8_append_27 rfl (by rfl) ?_
    refine g_getf dX8_append_28 fX8_50 (by exact hb) (by omega) (by rfl) ?_
    refine g_iload_n dX8_append_31 rfl (by rfl) ?_
    refine g_callV_p (c_X6_addBytes hsc (by omega) (by omega) _) dX8_append_32 (mX6_addBytes) rfl lX8_77 iX6_addBytes vX6_addBytes (by decide) (by omega) (by exact hs) rfl rfl rfl rfl (Nat.le_of_ble_eq_true rfl) (fun v9 h9 z9 => ?_)
    obtain ⟨rfl, qs, qoff⟩ := z9
    have hP := hP.scr qoff qs
    have hoff := hoff.trans (qoff.wide (a := _) (b := _) (a' := b) (b' := b + 93) (by omega) (by omega))
    obtain ⟨hb, hD, hS, ⟨σt, hDt⟩, ⟨pm, hH⟩, hT, ⟨go, gl, hG, hgl, hgo⟩, ⟨nx, tk, ts, ex, hsc⟩, hR⟩ := id hP
    obtain ⟨τ, hTt, hT0⟩ := id hT
    unfold s_po at hb
    have hd := hD.1
    have hs := hsc.1
    have hk := hH.1
    have ht := hTt.1
    have hg := hG.1
    have hr := hR.1
    have htd := hDt.1
    have hsd := hS.1
    have q1 := hD.2.1
    have q2 := hD.2.2.1
    have q3 := hD.2.2.2.1
    have q4 := hD.2.2.2.2
    have u1 := hDt.2.1
    have u2 := hDt.2.2.1
    have u3 := hDt.2.2.2.1
    have u4 := hDt.2.2.2.2
    dsimp only at hsc hs
    refine g_aload_n dX8_append_35 rfl (by rfl) ?_
    refine g_getf dX8_append_36 fX8_50 (by exact hb) (by omega) (by rfl) ?_
    refine g_iload_n dX8_append_39 rfl (by rfl) ?_
    refine g_callV_p (c_X6_addBytes hsc (by omega) (by omega) _) dX8_append_40 (mX6_addBytes) rfl lX8_77 iX6_addBytes vX6_addBytes (by decide) (by omega) (by exact hs) rfl rfl rfl rfl (Nat.le_of_ble_eq_true rfl) (fun v9 h9 z9 => ?_)
    obtain ⟨rfl, qs, qoff⟩ := z9
    have hP := hP.scr qoff qs
    have hoff := hoff.trans (qoff.wide (a := _) (b := _) (a' := b) (b' := b + 93) (by omega) (by omega))
    obtain ⟨hb, hD, hS, ⟨σt, hDt⟩, ⟨pm, hH⟩, hT, ⟨go, gl, hG, hgl, hgo⟩, ⟨nx, tk, ts, ex, hsc⟩, hR⟩ := id hP
    obtain ⟨τ, hTt, hT0⟩ := id hT
    unfold s_po at hb
    have hd := hD.1
    have hs := hsc.1
    have hk := hH.1
    have ht := hTt.1
    have hg := hG.1
    have hr := hR.1
    have htd := hDt.1
    have hsd := hS.1
    have q1 := hD.2.1
    have q2 := hD.2.2.1
    have q3 := hD.2.2.2.1
    have q4 := hD.2.2.2.2
    have u1 := hDt.2.1
    have u2 := hDt.2.2.1
    have u3 := hDt.2.2.2.1
    have u4 := hDt.2.2.2.2
    dsimp only at hsc hs
    refine g_aload_n dX8_append_43 rfl (by rfl) ?_
    refine g_getf dX8_append_44 fX8_50 (by exact hb) (by omega) (by rfl) ?_
    refine g_iload dX8_append_47 (by rfl) ?_
    refine g_callV_p (c_X6_addBytes hsc (by omega) (by omega) _) dX8_append_49 (mX6_addBytes) rfl lX8_77 iX6_addBytes vX6_addBytes (by decide) (by omega) (by exact hs) rfl rfl rfl rfl (Nat.le_of_ble_eq_true rfl) (fun v9 h9 z9 => ?_)
    obtain ⟨rfl, qs, qoff⟩ := z9
    have hP := hP.scr qoff qs
    have hoff := hoff.trans (qoff.wide (a := _) (b := _) (a' := b) (b' := b + 93) (by omega) (by omega))
    obtain ⟨hb, hD, hS, ⟨σt, hDt⟩, ⟨pm, hH⟩, hT, ⟨go, gl, hG, hgl, hgo⟩, ⟨nx, tk, ts, ex, hsc⟩, hR⟩ := id hP
    obtain ⟨τ, hTt, hT0⟩ := id hT
    unfold s_po at hb
    have hd := hD.1
    have hs := hsc.1
    have hk := hH.1
    have ht := hTt.1
    have hg := hG.1
    have hr := hR.1
    have htd := hDt.1
    have hsd := hS.1
    have q1 := hD.2.1
    have q2 := hD.2.2.1
    have q3 := hD.2.2.2.1
    have q4 := hD.2.2.2.2
    have u1 := hDt.2.1
    have u2 := hDt.2.2.1
    have u3 := hDt.2.2.2.1
    have u4 := hDt.2.2.2.2
    dsimp only at hsc hs
    refine g_aload_n dX8_append_52 rfl (by rfl) ?_
    refine g_getf dX8_append_53 fX8_50 (by exact hb) (by omega) (by rfl) ?_
    refine g_iload dX8_append_56 (by rfl) ?_
    refine g_callV_p (c_X6_addBytes hsc (by omega) (by omega) _) dX8_append_58 (mX6_addBytes) rfl lX8_77 iX6_addBytes vX6_addBytes (by decide) (by omega) (by exact hs) rfl rfl rfl rfl (Nat.le_of_ble_eq_true rfl) (fun v9 h9 z9 => ?_)
    obtain ⟨rfl, qs, qoff⟩ := z9
    have hP := hP.scr qoff qs
    have hoff := hoff.trans (qoff.wide (a := _) (b := _) (a' := b) (b' := b + 93) (by omega) (by omega))
    obtain ⟨hb, hD, hS, ⟨σt, hDt⟩, ⟨pm, hH⟩, hT, ⟨go, gl, hG, hgl, hgo⟩, ⟨nx, tk, ts, ex, hsc⟩, hR⟩ := id hP
    obtain ⟨τ, hTt, hT0⟩ := id hT
    unfold s_po at hb
    have hd := hD.1
    have hs := hsc.1
    have hk := hH.1
    have ht := hTt.1
    have hg := hG.1
    have hr := hR.1
    have htd := hDt.1
    have hsd := hS.1
    have q1 := hD.2.1
    have q2 := hD.2.2.1
    have q3 := hD.2.2.2.1
    have q4 := hD.2.2.2.2
    have u1 := hDt.2.1
    have u2 := hDt.2.2.1
    have u3 := hDt.2.2.2.1
    have u4 := hDt.2.2.2.2
    dsimp only at hsc hs
    refine g_aload_n dX8_append_61 rfl (by rfl) ?_
    refine g_getf dX8_append_62 fX8_50 (by exact hb) (by omega) (by rfl) ?_
    refine g_getf dX8_append_65 fX8_73 (by exact hs) (by omega) (by rfl) ?_
    refine g_ireturn dX8_append_68 rfl ?_
    exact ⟨rfl, by rw [if_pos hl20], by rw [if_pos hl20]; exact hP, hoff⟩
  · have hl20 : ¬ π.2.2.2.2.2.2.1 + 20 ≤ 500 := fun z => c_13 (show nI _ ≤ nI 500 from nI_le z (by omega))
    refine g_bipush (-2) dX8_append_16 (by rfl) ?_
    refine g_ireturn dX8_append_18 rfl ?_
    exact ⟨rfl, by rw [if_neg hl20], by rw [if_neg hl20]; exact hP, hoff⟩
