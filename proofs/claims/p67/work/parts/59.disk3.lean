/-! THE SCRIPT: its first command, and the run -/
/-- the state behind the word disk's token -/
def x_d1 (tx : Nat → Int32) (len : Nat) (σ : s_D) : x_S := (σ, 0, -1, (x_tok tx len 0).1, (x_tok tx len 0).2.1, (x_tok tx len 0).2.2, 0)
def x_rst (σ : s_D) (cap : Int32) : s_D := (σ.1, d_mk 0 cap 0 0 0)
/-- the first command -/
def x_dsk (tx : Nat → Int32) (len : Nat) (σ : s_D) : Bool × x_S :=
  if x_is tx (x_d1 tx len σ).2.2.2.1 (x_d1 tx len σ).2.2.2.2.1 (x_d1 tx len σ).2.2.2.2.2.1 0 = true then
    (if (x_rd tx len (x_d1 tx len σ).2.2.2.1 0 100).1 = -1 then (false, x_num tx len 0 100 (x_d1 tx len σ)) else
     if (x_next tx len (x_num tx len 0 100 (x_d1 tx len σ))).2.2.2.2.1 = 59 then (true, (x_rst σ (x_rd tx len (x_d1 tx len σ).2.2.2.1 0 100).1, (x_next tx len (x_num tx len 0 100 (x_d1 tx len σ))).2)) else (false, x_fail (x_next tx len (x_num tx len 0 100 (x_d1 tx len σ))) 1))
  else (false, x_fail (x_d1 tx len σ) 1)
theorem x_rdx2 {h h1 : s_H} {b len : Nat} {tx : Nat → Int32} {S : x_S} {r : Int32 × Int32} (hw : s_sx h b tx len S)
    (z : s_sc h1 (b + 89) tx len (if r.2 = 0 then S.2.1 else r.2) (if r.2 = 0 then S.2.2.1 else nI (x_tok tx len S.2.2.2.1).2.2) (nI (x_tok tx len S.2.2.2.1).1) (x_tok tx len S.2.2.2.1).2.1 (nI (x_tok tx len S.2.2.2.1).2.2) (nI S.2.2.2.2.2.2)) (zo : s_off h h1 (b + 89) (b + 89 + 2)) :
    s_sx h1 b tx len (if r.2 = 0 then x_next tx len S else x_fail (x_next tx len S) r.2) ∧ s_off3 h h1 b := by
  obtain ⟨⟨hsc, hD, hT⟩, htq, hq⟩ := hw
  have hb := x_tok_le (tx := tx) hq
  refine ⟨?_, s_off3.of zo (by omega)⟩
  by_cases e : r.2 = 0
  · rw [if_pos e] at z ⊢
    rw [if_pos e] at z
    exact ⟨⟨z, hD.off zo (by omega), hT.off zo (by omega)⟩, hb.1, hb.2.1⟩
  · rw [if_neg e] at z ⊢
    rw [if_neg e] at z
    exact ⟨⟨z, hD.off zo (by omega), hT.off zo (by omega)⟩, hb.1, hb.2.1⟩
theorem x_rst_ok {σ : s_D} {c : Nat} (hc : c ≤ 100) : d_ok (x_rst σ (nI c)) 0 c := ⟨rfl, by omega, rfl, hc, fun i hi => by omega⟩
theorem x_dsk_ok {tx : Nat → Int32} {len : Nat} {σ : s_D} (h : (x_dsk tx len σ).1 = true) : (∃ cp, d_ok (x_dsk tx len σ).2.1 0 cp) ∧ (x_dsk tx len σ).2.2.2.2.2.2.2 = 0 := by
  unfold x_dsk at h ⊢
  split at h
  · rename_i h1
    rw [if_pos h1]
    split at h
    · cases h
    · rename_i h2
      rw [if_neg h2]
      split at h
      · rename_i h3
        rw [if_pos h3]
        obtain ⟨m, hm, -, hm2⟩ := x_rd_in (tx := tx) (len := len) (q := (x_d1 tx len σ).2.2.2.1) (lo := 0) (hi := 100) (by decide) h2 (by decide)
        refine ⟨⟨m, ?_⟩, ?_⟩
        · show d_ok (x_rst σ (x_rd tx len (x_d1 tx len σ).2.2.2.1 (nI 0) (nI 100)).1) 0 m
          rw [hm]
          exact x_rst_ok hm2
        · exact (x_num_d (tx := tx) (len := len) (lo := 0) (hi := 100) (S := x_d1 tx len σ)).2
      · cases h
  · cases h

theorem c_runDisk {h : s_H} {n b len : Nat} {tx : Nat → Int32} {σ : s_D} {ek eo nx tk ts ex : Int32} (hsc : s_sc h (b + 89) tx len ek eo nx tk ts ex) (hD : s_disk h (b + 6) σ) (hT : s_t0 h (b + 68)) (hn : b + 93 ≤ n) (hl : len ≤ 500) : s_Mt TX6_runDisk 0 0 [.ref (b + 89), .ref (b + 6)] h n (s_rp n (fun v9 h1 => v9 = some (.int (x_bi (x_dsk tx len σ).1)) ∧ s_sy h1 b tx len (x_dsk tx len σ).2 ∧ s_off3 h h1 b) s_no) := by
  have hs := hsc.1
  have hx := hsc.2
  have hdd := hD.1
  refine s_Mt_of rfl (by decide) (by exact Nat.le_of_ble_eq_true rfl) ?_
  refine g_aload_n dX6_runDisk_0 rfl (by rfl) ?_
  refine g_iconst 0 dX6_runDisk_1 (by rfl) ?_
  refine g_putf' dX6_runDisk_2 pX6_19 (by exact hs) (by omega) (by exact Nat.le_of_ble_eq_true rfl) (by rfl) (by rfl) (fun h1 e1 => ?_)
  first | have hs_1 := s_up_off e1 (by omega) hs | have hs_1 := s_up_at e1
  first | have hx_1 := s_up_off e1 (by omega) hx | have hx_1 := s_up_at e1
  first | have hdd_1 := s_up_off e1 (by omega) hdd | have hdd_1 := s_up_at e1
  refine g_aload_n dX6_runDisk_5 rfl (by rfl) ?_
  refine g_iconst (-1) dX6_runDisk_6 (by rfl) ?_
  refine g_putf' dX6_runDisk_7 pX6_22 (by exact hs_1) (by omega) (by exact Nat.le_of_ble_eq_true rfl) (by rfl) (by rfl) (fun h2 e2 => ?_)
  first | have hs_2 := s_up_off e2 (by omega) hs_1 | have hs_2 := s_up_at e2
  first | have hx_2 := s_up_off e2 (by omega) hx_1 | have hx_2 := s_up_at e2
  first | have hdd_2 := s_up_off e2 (by omega) hdd_1 | have hdd_2 := s_up_at e2
  refine g_aload_n dX6_runDisk_10 rfl (by rfl) ?_
  refine g_iconst 0 dX6_runDisk_11 (by rfl) ?_
  refine g_putf' dX6_runDisk_12 pX6_25 (by exact hs_2) (by omega) (by exact Nat.le_of_ble_eq_true rfl) (by rfl) (by rfl) (fun h3 e3 => ?_)
  first | have hs_3 := s_up_off e3 (by omega) hs_2 | have hs_3 := s_up_at e3
  first | have hx_3 := s_up_off e3 (by omega) hx_2 | have hx_3 := s_up_at e3
  first | have hdd_3 := s_up_off e3 (by omega) hdd_2 | have hdd_3 := s_up_at e3
  refine g_aload_n dX6_runDisk_15 rfl (by rfl) ?_
  refine g_iconst 0 dX6_runDisk_16 (by rfl) ?_
  refine g_putf' dX6_runDisk_17 pX6_34 (by exact hs_3) (by omega) (by exact Nat.le_of_ble_eq_true rfl) (by rfl) (by rfl) (fun h4 e4 => ?_)
  first | have hs_4 := s_up_off e4 (by omega) hs_3 | have hs_4 := s_up_at e4
  first | have hx_4 := s_up_off e4 (by omega) hx_3 | have hx_4 := s_up_at e4
  first | have hdd_4 := s_up_off e4 (by omega) hdd_3 | have hdd_4 := s_up_at e4
  refine g_aload_n dX6_runDisk_20 rfl (by rfl) ?_
  refine g_callV_p (c_X6_readToken (n := n) (q := 0) (s := b + 89) (ek := 0) (eo := -1) (ex := nI 0) ⟨hs_4, hx_4⟩ (by omega) (by omega) hl) dX6_runDisk_21 (mX6_readToken) rfl lX6_37 iX6_readToken vX6_readToken (by decide) (by omega) (by exact hs_4) rfl rfl rfl rfl (Nat.le_of_ble_eq_true rfl) (fun v9 h9 z9 => ?_)
  obtain ⟨rfl, y2, y3⟩ := z9
  have qoff : s_off h h9 (b + 89) (b + 91) := (((((s_off.rf (a := (b + 89)) (b := (b + 91))).up e1 (by omega)).up e2 (by omega)).up e3 (by omega)).up e4 (by omega)).trans y3
  have hoff : s_off3 h h9 b := s_off3.of qoff (by omega)
  have hb0 := x_tok_le (tx := tx) (len := len) (q := 0) (by omega)
  have hw : s_sx h9 b tx len (x_d1 tx len σ) := ⟨⟨y2, hD.off qoff (by omega), hT.off qoff (by omega)⟩, hb0.1, hb0.2.1⟩
  obtain ⟨hw0, htq, hq⟩ := id hw
  have hsc := hw0.1
  have hs := hsc.1
  have hx := hsc.2
  have hdd := hw0.2.1.1
  refine g_aload_n dX6_runDisk_24 rfl (by rfl) ?_
  refine g_kstr (i := 0) (text := "disk") (show ("BackupPlanner$Script", 40, "disk", 0) ∈ s_str by decide) dX6_runDisk_25 ?_
  refine g_callV_e (c_X6_isWord (i := 0) hsc (by omega) htq (by omega) (by omega)) dX6_runDisk_27 (mX6_isWord) rfl lX6_42 iX6_isWord vX6_isWord (by decide) (by omega) (by exact hs) rfl rfl rfl rfl (Nat.le_of_ble_eq_true rfl) ?_
  refine g_if_ne (tgt := 39) dX6_runDisk_30 (by decide) (fun c_30 => ?_) (fun c_30 => ?_)
  · have hw0t := x_bi_t c_30
    refine g_aload_n dX6_runDisk_39 rfl (by rfl) ?_
    refine g_iconst 0 dX6_runDisk_40 (by rfl) ?_
    refine g_bipush 100 dX6_runDisk_41 (by rfl) ?_
    refine g_callV_p (c_X6_readNumber (n := n) hsc (by omega) hq hl 0 100) dX6_runDisk_43 (mX6_readNumber) rfl lX6_50 iX6_readNumber vX6_readNumber (by decide) (by omega) (by exact hs) rfl rfl rfl rfl (Nat.le_of_ble_eq_true rfl) (fun v9 h9 z9 => ?_)
    obtain ⟨rfl, y2, y3⟩ := z9
    obtain ⟨hw, hoff2⟩ := x_rdx2 (r := (x_rd tx len (x_d1 tx len σ).2.2.2.1 0 100)) hw y2 y3
    have hoff := hoff.tr hoff2
    have hw : s_sx h9 b tx len (x_num tx len 0 100 (x_d1 tx len σ)) := hw
    obtain ⟨hw0, htq, hq⟩ := id hw
    have hsc := hw0.1
    have hs := hsc.1
    have hx := hsc.2
    have hdd := hw0.2.1.1
    refine g_istore_n dX6_runDisk_46 rfl (by decide) ?_
    refine g_iload_n dX6_runDisk_47 rfl (by rfl) ?_
    refine g_iconst (-1) dX6_runDisk_48 (by rfl) ?_
    refine g_icmp_eq (tgt := 61) dX6_runDisk_49 (by decide) (fun c_49 => ?_) (fun c_49 => ?_)
    · have e : (x_dsk tx len σ) = (false, (x_num tx len 0 100 (x_d1 tx len σ))) := by unfold x_dsk; rw [if_pos hw0t, if_pos c_49]
      have hw := hw.sy
      refine g_iconst 0 dX6_runDisk_61 (by rfl) ?_
      refine g_zreturn dX6_runDisk_62 rfl (by decide) ?_
      rw [e]
      exact ⟨rfl, rfl, hw, hoff⟩
    · refine g_aload_n dX6_runDisk_52 rfl (by rfl) ?_
      refine g_bipush 59 dX6_runDisk_53 (by rfl) ?_
      refine g_callV_p (c_yexp hw.sy hn hl 59) dX6_runDisk_55 (mX6_expect) rfl lX6_54 iX6_expect vX6_expect (by decide) (by omega) (by exact hs) rfl rfl rfl rfl (Nat.le_of_ble_eq_true rfl) (fun v9 h9 z9 => ?_)
      obtain ⟨rfl, hw, hoff2⟩ := z9
      have hoff := hoff.tr hoff2
      refine g_if_ne (tgt := 63) dX6_runDisk_58 (by decide) (fun c_58 => ?_) (fun c_58 => ?_)
      · have h59 : (x_next tx len (x_num tx len 0 100 (x_d1 tx len σ))).2.2.2.2.1 = 59 := Classical.byContradiction fun z => c_58 (by rw [if_neg z])
        rw [if_pos h59] at hw
        obtain ⟨hw0, htq, hq⟩ := id hw
        have hsc := hw0.1
        have hs := hsc.1
        have hx := hsc.2
        have hdd := hw0.2.1.1
        refine g_aload_n dX6_runDisk_63 rfl (by rfl) ?_
        refine g_iload_n dX6_runDisk_64 rfl (by rfl) ?_
        refine g_callV_p (c_X2_reset hw0.2.1 (by omega) (x_rd tx len (x_d1 tx len σ).2.2.2.1 0 100).1) dX6_runDisk_65 (mX2_reset) rfl lX6_57 iX2_reset vX2_reset (by decide) (by omega) (by exact hdd) rfl rfl rfl rfl (Nat.le_of_ble_eq_true rfl) (fun v9 h9 z9 => ?_)
        obtain ⟨rfl, qd, qoff⟩ := z9
        have hs1 : (x_next tx len (x_num tx len 0 100 (x_d1 tx len σ))).1 = σ := (x_num_d (tx := tx) (len := len) (lo := 0) (hi := 100) (S := (x_d1 tx len σ))).1
        rw [hs1] at qd
        have e : (x_dsk tx len σ) = (true, (x_rst σ (x_rd tx len (x_d1 tx len σ).2.2.2.1 0 100).1, (x_next tx len (x_num tx len 0 100 (x_d1 tx len σ))).2)) := by unfold x_dsk; rw [if_pos hw0t, if_neg c_49, if_pos h59]
        have hoff := hoff.tr (s_off3.of qoff (by omega))
        have hw : s_sy h9 b tx len (x_rst σ (x_rd tx len (x_d1 tx len σ).2.2.2.1 0 100).1, (x_next tx len (x_num tx len 0 100 (x_d1 tx len σ))).2) := ⟨⟨hw0.1.off qoff (by omega), qd, hw0.2.2.off qoff (by omega)⟩, hq⟩
        refine g_iconst 1 dX6_runDisk_68 (by rfl) ?_
        refine g_zreturn dX6_runDisk_69 rfl (by decide) ?_
        rw [e]
        exact ⟨rfl, rfl, hw, hoff⟩
      · have h59 : ¬ (x_next tx len (x_num tx len 0 100 (x_d1 tx len σ))).2.2.2.2.1 = 59 := fun z => by rw [if_pos z] at c_58; exact absurd c_58 (by decide)
        rw [if_neg h59] at hw
        have e : (x_dsk tx len σ) = (false, x_fail (x_next tx len (x_num tx len 0 100 (x_d1 tx len σ))) 1) := by unfold x_dsk; rw [if_pos hw0t, if_neg c_49, if_neg h59]
        have hw := hw.sy
        refine g_iconst 0 dX6_runDisk_61 (by rfl) ?_
        refine g_zreturn dX6_runDisk_62 rfl (by decide) ?_
        rw [e]
        exact ⟨rfl, rfl, hw, hoff⟩
  · have e : (x_dsk tx len σ) = (false, x_fail (x_d1 tx len σ) 1) := by unfold x_dsk; rw [if_neg (x_bi_f c_30)]
    refine g_aload_n dX6_runDisk_33 rfl (by rfl) ?_
    refine g_iconst 1 dX6_runDisk_34 (by rfl) ?_
    refine g_callV_p (c_xfail hw hn 1) dX6_runDisk_35 (mX6_fail) rfl lX6_46 iX6_fail vX6_fail (by decide) (by omega) (by exact hs) rfl rfl rfl rfl (Nat.le_of_ble_eq_true rfl) (fun v9 h9 z9 => ?_)
    obtain ⟨rfl, hw, hoff2⟩ := z9
    have hoff := hoff.tr hoff2
    refine g_zreturn dX6_runDisk_38 rfl (by decide) ?_
    rw [e]
    exact ⟨rfl, rfl, hw.sy, hoff⟩
