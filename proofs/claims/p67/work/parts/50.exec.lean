/-! THE SCRIPT: commands executed -/
/-- what a script may change -/
def s_off3 (h h1 : s_H) (b : Nat) : Prop := ∀ j, (j < b + 6 ∨ b + 11 ≤ j) → (j < b + 68 ∨ b + 87 ≤ j) → (j < b + 89 ∨ b + 91 ≤ j) → h1 j = h j
theorem s_off3.rf {h : s_H} {b : Nat} : s_off3 h h b := fun _ _ _ _ => rfl
theorem s_off3.tr {h h1 h2 : s_H} {b : Nat} (q : s_off3 h h1 b) (r : s_off3 h1 h2 b) : s_off3 h h2 b := fun j a c d => (r j a c d).trans (q j a c d)
theorem s_off3.of {h h1 : s_H} {b x y : Nat} (q : s_off h h1 x y) (hr : (b + 6 ≤ x ∧ y ≤ b + 11) ∨ (b + 68 ≤ x ∧ y ≤ b + 87) ∨ (b + 89 ≤ x ∧ y ≤ b + 91)) : s_off3 h h1 b := fun j a c d => q j (by omega)
theorem s_off3.of2 {h h1 : s_H} {b : Nat} (q : s_off2 h h1 (b + 6) (b + 11) (b + 68) (b + 87)) : s_off3 h h1 b := fun j a c _ => q j a c
/-- the objects of a script's run -/
def s_sw (h : s_H) (b : Nat) (σ : s_D) (tx : Nat → Int32) (len : Nat) (ek eo : Int32) (q : Nat) (tk : Int32) (t : Nat) (ex : Nat) : Prop :=
  s_sc h (b + 89) tx len ek eo (nI q) tk (nI t) (nI ex) ∧ s_disk h (b + 6) σ ∧ s_t0 h (b + 68)

theorem c_X6_exec0 {h : s_H} {n b len q t ex cnt cp : Nat} {σ : s_D} {tx : Nat → Int32} {ek eo tk : Int32} (hw : s_sw h b σ tx len ek eo q tk t ex) (hn : b + 93 ≤ n) (ok : d_ok σ cnt cp) (a c : Int32) : s_Mt TX6_execute 0 0 [.ref (b + 89), .ref (s_big + 100 + 0), .int a, .int c, .ref (b + 6), .ref (b + 68)] h n (s_rp n (fun v9 h1 => v9 = some (.int (if cnt < 14 then 1 else 0)) ∧ s_sw h1 b (if cnt < 14 then d_add σ cnt a c else σ) tx len (if cnt < 14 then ek else 3) (if cnt < 14 then eo else nI t) q tk t ex ∧ s_off3 h h1 b) s_no) := by
  obtain ⟨hsc, hD, hT⟩ := id hw
  have hs := hsc.1
  have hx := hsc.2
  have hdd := ok.hd hD
  have u1 := hD.2.1
  have u2 := hD.2.2.1
  have u3 := hD.2.2.2.1
  have u4 := hD.2.2.2.2
  have hc14 := ok.2.1
  have hc100 := ok.2.2.2.1
  refine s_Mt_of rfl (by decide) (by exact Nat.le_of_ble_eq_true rfl) ?_
  refine g_kmap rfl dX6_execute_0 ?_
  refine g_aload_n dX6_execute_3 rfl (by rfl) ?_
  refine g_ord (j := 0) (by omega) rfl dX6_execute_4 (Nat.le_of_ble_eq_true rfl) ?_
  refine g_kmat (j := 0) (by omega) rfl dX6_execute_7 ?_
  refine g_tabIn (tgt := 64) (off := 56) dX6_execute_8 (by decide) (by decide) (by decide) (by decide) ?_
  refine g_aload dX6_execute_64 (by rfl) ?_
  refine g_getf dX6_execute_66 fX6_114 (by exact hdd) (by omega) (by rfl) ?_
  refine g_bipush 14 dX6_execute_69 (by rfl) ?_
  refine g_icmp_lt (tgt := 80) dX6_execute_71 (by decide) (fun c_71 => ?_) (fun c_71 => ?_)
  · have hlt : cnt < 14 := Nat.lt_of_not_le fun z => absurd c_71 (Int32.not_lt.mpr (show nI 14 ≤ nI cnt from nI_le z (by omega)))
    refine g_aload dX6_execute_80 (by rfl) ?_
    refine g_iload_n dX6_execute_82 rfl (by rfl) ?_
    refine g_iload_n dX6_execute_83 rfl (by rfl) ?_
    refine g_callV_p (c_X2_add hD (by omega) ok.1 hlt a c) dX6_execute_84 (mX2_add) rfl lX6_117 iX2_add vX2_add (by decide) (by omega) (by exact hdd) rfl rfl rfl rfl (Nat.le_of_ble_eq_true rfl) (fun v9 h9 z9 => ?_)
    obtain ⟨rfl, qd, qoff⟩ := z9
    have hw9 : s_sw h9 b (d_add σ cnt a c) tx len ek eo q tk t ex := ⟨hsc.off qoff (by omega), qd, hT.off qoff (by omega)⟩
    have hoff : s_off3 h h9 b := s_off3.of qoff (by omega)
    refine g_goto (tgt := 234) dX6_execute_87 (by decide) ?_
    refine g_iconst 1 dX6_execute_234 (by rfl) ?_
    refine g_zreturn dX6_execute_235 rfl (Or.inr rfl) ?_
    exact ⟨rfl, by rw [if_pos hlt], by rw [if_pos hlt, if_pos hlt, if_pos hlt]; exact hw9, hoff⟩
  · have hge : ¬ cnt < 14 := fun z => c_71 (show nI cnt < nI 14 from nI_lt z (by omega))
    refine g_aload_n dX6_execute_74 rfl (by rfl) ?_
    refine g_iconst 3 dX6_execute_75 (by rfl) ?_
    refine g_callV_p (c_X6_fail hsc (by omega) _) dX6_execute_76 (mX6_fail) rfl lX6_46 iX6_fail vX6_fail (by decide) (by omega) (by exact hs) rfl rfl rfl rfl (Nat.le_of_ble_eq_true rfl) (fun v9 h9 z9 => ?_)
    obtain ⟨rfl, qs, qoff⟩ := z9
    have hw9 : s_sw h9 b σ tx len 3 (nI t) q tk t ex := ⟨qs, hD.off qoff (by omega), hT.off qoff (by omega)⟩
    have hoff : s_off3 h h9 b := s_off3.of qoff (by omega)
    refine g_zreturn dX6_execute_79 rfl (by decide) ?_
    exact ⟨rfl, by rw [if_neg hge], by rw [if_neg hge, if_neg hge, if_neg hge]; exact hw9, hoff⟩

theorem c_X6_exec1 {h : s_H} {n b len q t ex cnt cp : Nat} {σ : s_D} {tx : Nat → Int32} {ek eo tk : Int32} (hw : s_sw h b σ tx len ek eo q tk t ex) (hn : b + 93 ≤ n) (ok : d_ok σ cnt cp) (i : Nat) (hi : i < cnt) (c : Int32) : s_Mt TX6_execute 0 0 [.ref (b + 89), .ref (s_big + 100 + 1), .int (nI i), .int c, .ref (b + 6), .ref (b + 68)] h n (s_rp n (fun v9 h1 => v9 = some (.int 1) ∧ s_sw h1 b (d_put σ 3 i 1) tx len ek eo q tk t ex ∧ s_off3 h h1 b) s_no) := by
  obtain ⟨hsc, hD, hT⟩ := id hw
  have hs := hsc.1
  have hx := hsc.2
  have hdd := ok.hd hD
  have u1 := hD.2.1
  have u2 := hD.2.2.1
  have u3 := hD.2.2.2.1
  have u4 := hD.2.2.2.2
  have hc14 := ok.2.1
  have hc100 := ok.2.2.2.1
  refine s_Mt_of rfl (by decide) (by exact Nat.le_of_ble_eq_true rfl) ?_
  refine g_kmap rfl dX6_execute_0 ?_
  refine g_aload_n dX6_execute_3 rfl (by rfl) ?_
  refine g_ord (j := 1) (by omega) rfl dX6_execute_4 (Nat.le_of_ble_eq_true rfl) ?_
  refine g_kmat (j := 1) (by omega) rfl dX6_execute_7 ?_
  refine g_tabIn (tgt := 90) (off := 82) dX6_execute_8 (by decide) (by decide) (by decide) (by decide) ?_
  refine g_aload dX6_execute_90 (by rfl) ?_
  refine g_getf dX6_execute_92 fX6_121 (by exact hdd) (by omega) (by rfl) ?_
  refine g_iload_n dX6_execute_95 rfl (by rfl) ?_
  refine g_iconst 1 dX6_execute_96 (by rfl) ?_
  refine g_iast' dX6_execute_97 (by first | exact u1 | exact u2 | exact u3 | exact u4) (by omega) (by rfl) (by omega) (by omega) (fun h1 e1 => ?_)
  first | have hs_1 := s_up_off e1 (by omega) hs | have hs_1 := s_up_at e1
  first | have hx_1 := s_up_off e1 (by omega) hx | have hx_1 := s_up_at e1
  first | have hdd_1 := s_up_off e1 (by omega) hdd | have hdd_1 := s_up_at e1
  first | have u1_1 := s_up_off e1 (by omega) u1 | have u1_1 := s_up_at e1
  first | have u2_1 := s_up_off e1 (by omega) u2 | have u2_1 := s_up_at e1
  first | have u3_1 := s_up_off e1 (by omega) u3 | have u3_1 := s_up_at e1
  first | have u4_1 := s_up_off e1 (by omega) u4 | have u4_1 := s_up_at e1
  have qd : s_disk h1 (b + 6) (d_put σ 3 i 1) := hD.put 3 (by omega) e1
  have qoff : s_off h h1 (b + 6) (b + 11) := s_off.rf.up e1 (by omega)
  have hw9 : s_sw h1 b (d_put σ 3 i 1) tx len ek eo q tk t ex := ⟨hsc.off qoff (by omega), qd, hT.off qoff (by omega)⟩
  have hoff : s_off3 h h1 b := s_off3.of qoff (by omega)
  refine g_goto (tgt := 234) dX6_execute_98 (by decide) ?_
  refine g_iconst 1 dX6_execute_234 (by rfl) ?_
  refine g_zreturn dX6_execute_235 rfl (by decide) ?_
  exact ⟨rfl, rfl, hw9, hoff⟩

theorem c_X6_exec2 {h : s_H} {n b len q t ex cnt cp : Nat} {σ : s_D} {tx : Nat → Int32} {ek eo tk : Int32} (hw : s_sw h b σ tx len ek eo q tk t ex) (hn : b + 93 ≤ n) (ok : d_ok σ cnt cp) (i : Nat) (hi : i < cnt) (c : Int32) : s_Mt TX6_execute 0 0 [.ref (b + 89), .ref (s_big + 100 + 2), .int (nI i), .int c, .ref (b + 6), .ref (b + 68)] h n (s_rp n (fun v9 h1 => v9 = some (.int 1) ∧ s_sw h1 b (d_put σ 3 i 2) tx len ek eo q tk t ex ∧ s_off3 h h1 b) s_no) := by
  obtain ⟨hsc, hD, hT⟩ := id hw
  have hs := hsc.1
  have hx := hsc.2
  have hdd := ok.hd hD
  have u1 := hD.2.1
  have u2 := hD.2.2.1
  have u3 := hD.2.2.2.1
  have u4 := hD.2.2.2.2
  have hc14 := ok.2.1
  have hc100 := ok.2.2.2.1
  refine s_Mt_of rfl (by decide) (by exact Nat.le_of_ble_eq_true rfl) ?_
  refine g_kmap rfl dX6_execute_0 ?_
  refine g_aload_n dX6_execute_3 rfl (by rfl) ?_
  refine g_ord (j := 2) (by omega) rfl dX6_execute_4 (Nat.le_of_ble_eq_true rfl) ?_
  refine g_kmat (j := 2) (by omega) rfl dX6_execute_7 ?_
  refine g_tabIn (tgt := 101) (off := 93) dX6_execute_8 (by decide) (by decide) (by decide) (by decide) ?_
  refine g_aload dX6_execute_101 (by rfl) ?_
  refine g_getf dX6_execute_103 fX6_121 (by exact hdd) (by omega) (by rfl) ?_
  refine g_iload_n dX6_execute_106 rfl (by rfl) ?_
  refine g_iconst 2 dX6_execute_107 (by rfl) ?_
  refine g_iast' dX6_execute_108 (by first | exact u1 | exact u2 | exact u3 | exact u4) (by omega) (by rfl) (by omega) (by omega) (fun h1 e1 => ?_)
  first | have hs_1 := s_up_off e1 (by omega) hs | have hs_1 := s_up_at e1
  first | have hx_1 := s_up_off e1 (by omega) hx | have hx_1 := s_up_at e1
  first | have hdd_1 := s_up_off e1 (by omega) hdd | have hdd_1 := s_up_at e1
  first | have u1_1 := s_up_off e1 (by omega) u1 | have u1_1 := s_up_at e1
  first | have u2_1 := s_up_off e1 (by omega) u2 | have u2_1 := s_up_at e1
  first | have u3_1 := s_up_off e1 (by omega) u3 | have u3_1 := s_up_at e1
  first | have u4_1 := s_up_off e1 (by omega) u4 | have u4_1 := s_up_at e1
  have qd : s_disk h1 (b + 6) (d_put σ 3 i 2) := hD.put 3 (by omega) e1
  have qoff : s_off h h1 (b + 6) (b + 11) := s_off.rf.up e1 (by omega)
  have hw9 : s_sw h1 b (d_put σ 3 i 2) tx len ek eo q tk t ex := ⟨hsc.off qoff (by omega), qd, hT.off qoff (by omega)⟩
  have hoff : s_off3 h h1 b := s_off3.of qoff (by omega)
  refine g_goto (tgt := 234) dX6_execute_109 (by decide) ?_
  refine g_iconst 1 dX6_execute_234 (by rfl) ?_
  refine g_zreturn dX6_execute_235 rfl (by decide) ?_
  exact ⟨rfl, rfl, hw9, hoff⟩

theorem c_X6_exec3 {h : s_H} {n b len q t ex cnt cp : Nat} {σ : s_D} {tx : Nat → Int32} {ek eo tk : Int32} (hw : s_sw h b σ tx len ek eo q tk t ex) (hn : b + 93 ≤ n) (ok : d_ok σ cnt cp) (i : Nat) (hi : i < cnt) (c : Int32) : s_Mt TX6_execute 0 0 [.ref (b + 89), .ref (s_big + 100 + 3), .int (nI i), .int c, .ref (b + 6), .ref (b + 68)] h n (s_rp n (fun v9 h1 => v9 = some (.int 1) ∧ s_sw h1 b (d_put σ 3 i 0) tx len ek eo q tk t ex ∧ s_off3 h h1 b) s_no) := by
  obtain ⟨hsc, hD, hT⟩ := id hw
  have hs := hsc.1
  have hx := hsc.2
  have hdd := ok.hd hD
  have u1 := hD.2.1
  have u2 := hD.2.2.1
  have u3 := hD.2.2.2.1
  have u4 := hD.2.2.2.2
  have hc14 := ok.2.1
  have hc100 := ok.2.2.2.1
  refine s_Mt_of rfl (by decide) (by exact Nat.le_of_ble_eq_true rfl) ?_
  refine g_kmap rfl dX6_execute_0 ?_
  refine g_aload_n dX6_execute_3 rfl (by rfl) ?_
  refine g_ord (j := 3) (by omega) rfl dX6_execute_4 (Nat.le_of_ble_eq_true rfl) ?_
  refine g_kmat (j := 3) (by omega) rfl dX6_execute_7 ?_
  refine g_tabIn (tgt := 112) (off := 104) dX6_execute_8 (by decide) (by decide) (by decide) (by decide) ?_
  refine g_aload dX6_execute_112 (by rfl) ?_
  refine g_getf dX6_execute_114 fX6_121 (by exact hdd) (by omega) (by rfl) ?_
  refine g_iload_n dX6_execute_117 rfl (by rfl) ?_
  refine g_iconst 0 dX6_execute_118 (by rfl) ?_
  refine g_iast' dX6_execute_119 (by first | exact u1 | exact u2 | exact u3 | exact u4) (by omega) (by rfl) (by omega) (by omega) (fun h1 e1 => ?_)
  first | have hs_1 := s_up_off e1 (by omega) hs | have hs_1 := s_up_at e1
  first | have hx_1 := s_up_off e1 (by omega) hx | have hx_1 := s_up_at e1
  first | have hdd_1 := s_up_off e1 (by omega) hdd | have hdd_1 := s_up_at e1
  first | have u1_1 := s_up_off e1 (by omega) u1 | have u1_1 := s_up_at e1
  first | have u2_1 := s_up_off e1 (by omega) u2 | have u2_1 := s_up_at e1
  first | have u3_1 := s_up_off e1 (by omega) u3 | have u3_1 := s_up_at e1
  first | have u4_1 := s_up_off e1 (by omega) u4 | have u4_1 := s_up_at e1
  have qd : s_disk h1 (b + 6) (d_put σ 3 i 0) := hD.put 3 (by omega) e1
  have qoff : s_off h h1 (b + 6) (b + 11) := s_off.rf.up e1 (by omega)
  have hw9 : s_sw h1 b (d_put σ 3 i 0) tx len ek eo q tk t ex := ⟨hsc.off qoff (by omega), qd, hT.off qoff (by omega)⟩
  have hoff : s_off3 h h1 b := s_off3.of qoff (by omega)
  refine g_goto (tgt := 234) dX6_execute_120 (by decide) ?_
  refine g_iconst 1 dX6_execute_234 (by rfl) ?_
  refine g_zreturn dX6_execute_235 rfl (by decide) ?_
  exact ⟨rfl, rfl, hw9, hoff⟩

theorem c_X6_exec4 {h : s_H} {n b len q t ex cnt cp : Nat} {σ : s_D} {tx : Nat → Int32} {ek eo tk : Int32} (hw : s_sw h b σ tx len ek eo q tk t ex) (hn : b + 93 ≤ n) (ok : d_ok σ cnt cp) (i : Nat) (hi : i < cnt) (c : Int32) : s_Mt TX6_execute 0 0 [.ref (b + 89), .ref (s_big + 100 + 4), .int (nI i), .int c, .ref (b + 6), .ref (b + 68)] h n (s_rp n (fun v9 h1 => v9 = some (.int 1) ∧ s_sw h1 b (d_drop σ i cnt) tx len ek eo q tk t ex ∧ s_off3 h h1 b) s_no) := by
  obtain ⟨hsc, hD, hT⟩ := id hw
  have hs := hsc.1
  have hx := hsc.2
  have hdd := ok.hd hD
  have u1 := hD.2.1
  have u2 := hD.2.2.1
  have u3 := hD.2.2.2.1
  have u4 := hD.2.2.2.2
  have hc14 := ok.2.1
  have hc100 := ok.2.2.2.1
  refine s_Mt_of rfl (by decide) (by exact Nat.le_of_ble_eq_true rfl) ?_
  refine g_kmap rfl dX6_execute_0 ?_
  refine g_aload_n dX6_execute_3 rfl (by rfl) ?_
  refine g_ord (j := 4) (by omega) rfl dX6_execute_4 (Nat.le_of_ble_eq_true rfl) ?_
  refine g_kmat (j := 4) (by omega) rfl dX6_execute_7 ?_
  refine g_tabIn (tgt := 123) (off := 115) dX6_execute_8 (by decide) (by decide) (by decide) (by decide) ?_
  refine g_aload dX6_execute_123 (by rfl) ?_
  refine g_iload_n dX6_execute_125 rfl (by rfl) ?_
  refine g_callV_p (c_X2_drop hD (by omega) ok.1 ok.2.1 hi) dX6_execute_126 (mX2_drop) rfl lX6_124 iX2_drop vX2_drop (by decide) (by omega) (by exact hdd) rfl rfl rfl rfl (Nat.le_of_ble_eq_true rfl) (fun v9 h9 z9 => ?_)
  obtain ⟨rfl, qd, qoff⟩ := z9
  have hw9 : s_sw h9 b (d_drop σ i cnt) tx len ek eo q tk t ex := ⟨hsc.off qoff (by omega), qd, hT.off qoff (by omega)⟩
  have hoff : s_off3 h h9 b := s_off3.of qoff (by omega)
  refine g_goto (tgt := 234) dX6_execute_129 (by decide) ?_
  refine g_iconst 1 dX6_execute_234 (by rfl) ?_
  refine g_zreturn dX6_execute_235 rfl (by decide) ?_
  exact ⟨rfl, rfl, hw9, hoff⟩

theorem c_X6_exec5 {h : s_H} {n b len q t ex cnt cp : Nat} {σ : s_D} {tx : Nat → Int32} {ek eo tk : Int32} (hw : s_sw h b σ tx len ek eo q tk t ex) (hn : b + 93 ≤ n) (ok : d_ok σ cnt cp) (a c : Int32) : s_Mt TX6_execute 0 0 [.ref (b + 89), .ref (s_big + 100 + 5), .int a, .int c, .ref (b + 6), .ref (b + 68)] h n (s_rp n (fun v9 h1 => v9 = some (.int 1) ∧ s_sw h1 b (d_cap σ a) tx len ek eo q tk t ex ∧ s_off3 h h1 b) s_no) := by
  obtain ⟨hsc, hD, hT⟩ := id hw
  have hs := hsc.1
  have hx := hsc.2
  have hdd := hD.1
  have u1 := hD.2.1
  have u2 := hD.2.2.1
  have u3 := hD.2.2.2.1
  have u4 := hD.2.2.2.2
  have hc14 := ok.2.1
  have hc100 := ok.2.2.2.1
  refine s_Mt_of rfl (by decide) (by exact Nat.le_of_ble_eq_true rfl) ?_
  refine g_kmap rfl dX6_execute_0 ?_
  refine g_aload_n dX6_execute_3 rfl (by rfl) ?_
  refine g_ord (j := 5) (by omega) rfl dX6_execute_4 (Nat.le_of_ble_eq_true rfl) ?_
  refine g_kmat (j := 5) (by omega) rfl dX6_execute_7 ?_
  refine g_tabIn (tgt := 132) (off := 124) dX6_execute_8 (by decide) (by decide) (by decide) (by decide) ?_
  refine g_aload dX6_execute_132 (by rfl) ?_
  refine g_iload_n dX6_execute_134 rfl (by rfl) ?_
  refine g_putf' dX6_execute_135 pX6_127 (by exact hdd) (by omega) (by exact Nat.le_of_ble_eq_true rfl) (by rfl) (by rfl) (fun h1 e1 => ?_)
  first | have hs_1 := s_up_off e1 (by omega) hs | have hs_1 := s_up_at e1
  first | have hx_1 := s_up_off e1 (by omega) hx | have hx_1 := s_up_at e1
  first | have hdd_1 := s_up_off e1 (by omega) hdd | have hdd_1 := s_up_at e1
  first | have u1_1 := s_up_off e1 (by omega) u1 | have u1_1 := s_up_at e1
  first | have u2_1 := s_up_off e1 (by omega) u2 | have u2_1 := s_up_at e1
  first | have u3_1 := s_up_off e1 (by omega) u3 | have u3_1 := s_up_at e1
  first | have u4_1 := s_up_off e1 (by omega) u4 | have u4_1 := s_up_at e1
  have qd : s_disk h1 (b + 6) (d_cap σ a) := ⟨hdd_1, u1_1, u2_1, u3_1, u4_1⟩
  have qoff : s_off h h1 (b + 6) (b + 11) := s_off.rf.up e1 (by omega)
  have hw9 : s_sw h1 b (d_cap σ a) tx len ek eo q tk t ex := ⟨hsc.off qoff (by omega), qd, hT.off qoff (by omega)⟩
  have hoff : s_off3 h h1 b := s_off3.of qoff (by omega)
  refine g_goto (tgt := 234) dX6_execute_138 (by decide) ?_
  refine g_iconst 1 dX6_execute_234 (by rfl) ?_
  refine g_zreturn dX6_execute_235 rfl (by decide) ?_
  exact ⟨rfl, rfl, hw9, hoff⟩

theorem c_X6_exec7 {h : s_H} {n b len q t ex cnt cp : Nat} {σ : s_D} {tx : Nat → Int32} {ek eo tk : Int32} (hw : s_sw h b σ tx len ek eo q tk t ex) (hn : b + 93 ≤ n) (ok : d_ok σ cnt cp) (i : Nat) (hi : i < cnt) (c : Int32) : s_Mt TX6_execute 0 0 [.ref (b + 89), .ref (s_big + 100 + 7), .int (nI i), .int c, .ref (b + 6), .ref (b + 68)] h n (s_rp n (fun v9 h1 => v9 = some (.int 1) ∧ s_sw h1 b (d_put σ 0 i c) tx len ek eo q tk t ex ∧ s_off3 h h1 b) s_no) := by
  obtain ⟨hsc, hD, hT⟩ := id hw
  have hs := hsc.1
  have hx := hsc.2
  have hdd := ok.hd hD
  have u1 := hD.2.1
  have u2 := hD.2.2.1
  have u3 := hD.2.2.2.1
  have u4 := hD.2.2.2.2
  have hc14 := ok.2.1
  have hc100 := ok.2.2.2.1
  refine s_Mt_of rfl (by decide) (by exact Nat.le_of_ble_eq_true rfl) ?_
  refine g_kmap rfl dX6_execute_0 ?_
  refine g_aload_n dX6_execute_3 rfl (by rfl) ?_
  refine g_ord (j := 7) (by omega) rfl dX6_execute_4 (Nat.le_of_ble_eq_true rfl) ?_
  refine g_kmat (j := 7) (by omega) rfl dX6_execute_7 ?_
  refine g_tabIn (tgt := 167) (off := 159) dX6_execute_8 (by decide) (by decide) (by decide) (by decide) ?_
  refine g_aload dX6_execute_167 (by rfl) ?_
  refine g_getf dX6_execute_169 fX6_134 (by exact hdd) (by omega) (by rfl) ?_
  refine g_iload_n dX6_execute_172 rfl (by rfl) ?_
  refine g_iload_n dX6_execute_173 rfl (by rfl) ?_
  refine g_iast' dX6_execute_174 (by first | exact u1 | exact u2 | exact u3 | exact u4) (by omega) (by rfl) (by omega) (by omega) (fun h1 e1 => ?_)
  first | have hs_1 := s_up_off e1 (by omega) hs | have hs_1 := s_up_at e1
  first | have hx_1 := s_up_off e1 (by omega) hx | have hx_1 := s_up_at e1
  first | have hdd_1 := s_up_off e1 (by omega) hdd | have hdd_1 := s_up_at e1
  first | have u1_1 := s_up_off e1 (by omega) u1 | have u1_1 := s_up_at e1
  first | have u2_1 := s_up_off e1 (by omega) u2 | have u2_1 := s_up_at e1
  first | have u3_1 := s_up_off e1 (by omega) u3 | have u3_1 := s_up_at e1
  first | have u4_1 := s_up_off e1 (by omega) u4 | have u4_1 := s_up_at e1
  have qd : s_disk h1 (b + 6) (d_put σ 0 i c) := hD.put 0 (by omega) e1
  have qoff : s_off h h1 (b + 6) (b + 11) := s_off.rf.up e1 (by omega)
  have hw9 : s_sw h1 b (d_put σ 0 i c) tx len ek eo q tk t ex := ⟨hsc.off qoff (by omega), qd, hT.off qoff (by omega)⟩
  have hoff : s_off3 h h1 b := s_off3.of qoff (by omega)
  refine g_goto (tgt := 234) dX6_execute_175 (by decide) ?_
  refine g_iconst 1 dX6_execute_234 (by rfl) ?_
  refine g_zreturn dX6_execute_235 rfl (by decide) ?_
  exact ⟨rfl, rfl, hw9, hoff⟩

theorem c_X6_exec8 {h : s_H} {n b len q t ex cnt cp : Nat} {σ : s_D} {tx : Nat → Int32} {ek eo tk : Int32} (hw : s_sw h b σ tx len ek eo q tk t ex) (hn : b + 93 ≤ n) (ok : d_ok σ cnt cp) (i : Nat) (hi : i < cnt) (c : Int32) : s_Mt TX6_execute 0 0 [.ref (b + 89), .ref (s_big + 100 + 8), .int (nI i), .int c, .ref (b + 6), .ref (b + 68)] h n (s_rp n (fun v9 h1 => v9 = some (.int 1) ∧ s_sw h1 b (d_put σ 1 i c) tx len ek eo q tk t ex ∧ s_off3 h h1 b) s_no) := by
  obtain ⟨hsc, hD, hT⟩ := id hw
  have hs := hsc.1
  have hx := hsc.2
  have hdd := ok.hd hD
  have u1 := hD.2.1
  have u2 := hD.2.2.1
  have u3 := hD.2.2.2.1
  have u4 := hD.2.2.2.2
  have hc14 := ok.2.1
  have hc100 := ok.2.2.2.1
  refine s_Mt_of rfl (by decide) (by exact Nat.le_of_ble_eq_true rfl) ?_
  refine g_kmap rfl dX6_execute_0 ?_
  refine g_aload_n dX6_execute_3 rfl (by rfl) ?_
  refine g_ord (j := 8) (by omega) rfl dX6_execute_4 (Nat.le_of_ble_eq_true rfl) ?_
  refine g_kmat (j := 8) (by omega) rfl dX6_execute_7 ?_
  refine g_tabIn (tgt := 178) (off := 170) dX6_execute_8 (by decide) (by decide) (by decide) (by decide) ?_
  refine g_aload dX6_execute_178 (by rfl) ?_
  refine g_getf dX6_execute_180 fX6_137 (by exact hdd) (by omega) (by rfl) ?_
  refine g_iload_n dX6_execute_183 rfl (by rfl) ?_
  refine g_iload_n dX6_execute_184 rfl (by rfl) ?_
  refine g_iast' dX6_execute_185 (by first | exact u1 | exact u2 | exact u3 | exact u4) (by omega) (by rfl) (by omega) (by omega) (fun h1 e1 => ?_)
  first | have hs_1 := s_up_off e1 (by omega) hs | have hs_1 := s_up_at e1
  first | have hx_1 := s_up_off e1 (by omega) hx | have hx_1 := s_up_at e1
  first | have hdd_1 := s_up_off e1 (by omega) hdd | have hdd_1 := s_up_at e1
  first | have u1_1 := s_up_off e1 (by omega) u1 | have u1_1 := s_up_at e1
  first | have u2_1 := s_up_off e1 (by omega) u2 | have u2_1 := s_up_at e1
  first | have u3_1 := s_up_off e1 (by omega) u3 | have u3_1 := s_up_at e1
  first | have u4_1 := s_up_off e1 (by omega) u4 | have u4_1 := s_up_at e1
  have qd : s_disk h1 (b + 6) (d_put σ 1 i c) := hD.put 1 (by omega) e1
  have qoff : s_off h h1 (b + 6) (b + 11) := s_off.rf.up e1 (by omega)
  have hw9 : s_sw h1 b (d_put σ 1 i c) tx len ek eo q tk t ex := ⟨hsc.off qoff (by omega), qd, hT.off qoff (by omega)⟩
  have hoff : s_off3 h h1 b := s_off3.of qoff (by omega)
  refine g_goto (tgt := 234) dX6_execute_186 (by decide) ?_
  refine g_iconst 1 dX6_execute_234 (by rfl) ?_
  refine g_zreturn dX6_execute_235 rfl (by decide) ?_
  exact ⟨rfl, rfl, hw9, hoff⟩

theorem c_X6_exec6 {h : s_H} {n b len q t ex cnt cp : Nat} {σ : s_D} {tx : Nat → Int32} {ek eo tk : Int32} (hw : s_sw h b σ tx len ek eo q tk t ex) (hn : b + 93 ≤ n) (ok : d_ok σ cnt cp) (m : Nat) (hm : m < 2147483648) (c : Int32) : s_Mt TX6_execute 0 0 [.ref (b + 89), .ref (s_big + 100 + 6), .int (nI m), .int c, .ref (b + 6), .ref (b + 68)] h n (s_rp n (fun v9 h1 => v9 = some (.int 1) ∧ s_sw h1 b (v_bn σ cnt cp m) tx len ek eo q tk t ex ∧ s_off3 h h1 b) s_no) := by
  obtain ⟨hsc, hD, hT⟩ := id hw
  have hs := hsc.1
  have hx := hsc.2
  have hdd := ok.hd hD
  have u1 := hD.2.1
  have u2 := hD.2.2.1
  have u3 := hD.2.2.2.1
  have u4 := hD.2.2.2.2
  have hc14 := ok.2.1
  have hc100 := ok.2.2.2.1
  refine s_Mt_of rfl (by decide) (by exact Nat.le_of_ble_eq_true rfl) ?_
  refine g_kmap rfl dX6_execute_0 ?_
  refine g_aload_n dX6_execute_3 rfl (by rfl) ?_
  refine g_ord (j := 6) (by omega) rfl dX6_execute_4 (Nat.le_of_ble_eq_true rfl) ?_
  refine g_kmat (j := 6) (by omega) rfl dX6_execute_7 ?_
  refine g_tabIn (tgt := 141) (off := 133) dX6_execute_8 (by decide) (by decide) (by decide) (by decide) ?_
  refine g_iconst 0 dX6_execute_141 (by rfl) ?_
  refine g_istore dX6_execute_142 (by decide) ?_
  have loop : ∀ (r k : Nat) (h' : s_H), k + r = m → s_sw h' b (v_bn σ cnt cp k) tx len ek eo q tk t ex → s_off3 h h' b → s_G TX6_execute (s_rp n (fun v9 h1 => v9 = some (.int 1) ∧ s_sw h1 b (v_bn σ cnt cp m) tx len ek eo q tk t ex ∧ s_off3 h h1 b) s_no) 144 (s_lvs [(0, .ref (b + 89)), (1, .ref (s_big + 100 + 6)), (2, .int (nI m)), (3, .int c), (4, .ref (b + 6)), (5, .ref (b + 68)), (6, .int (nI k))]) [] h' n 0 0 := by
    intro r
    induction r with
    | zero =>
      intro k h' hk hw hoff
      obtain rfl : k = m := by omega
      refine g_iload dX6_execute_144 (by rfl) ?_
      refine g_iload_n dX6_execute_146 rfl (by rfl) ?_
      refine g_icmp_ge (tgt := 164) dX6_execute_147 (by decide) (fun _ => ?_) (fun c_147 => absurd (nI_le (Nat.le_refl _) hm) c_147)
      refine g_goto (tgt := 234) dX6_execute_164 (by decide) ?_
      refine g_iconst 1 dX6_execute_234 (by rfl) ?_
      refine g_zreturn dX6_execute_235 rfl (by decide) ?_
      exact ⟨rfl, rfl, hw, hoff⟩
    | succ r ih =>
      intro k h' hk hw hoff
      obtain ⟨hsc, hD, hT⟩ := id hw
      have hs := hsc.1
      have hx := hsc.2
      have hdd := (v_bn_ok ok k).hd hD
      have u1 := hD.2.1
      have u2 := hD.2.2.1
      have u3 := hD.2.2.2.1
      have u4 := hD.2.2.2.2
      have hc14 := ok.2.1
      have hc100 := ok.2.2.2.1
      refine g_iload dX6_execute_144 (by rfl) ?_
      refine g_iload_n dX6_execute_146 rfl (by rfl) ?_
      refine g_icmp_ge (tgt := 164) dX6_execute_147 (by decide) (fun c_147 => absurd c_147 (nI_ge (by omega) hm)) (fun _ => ?_)
      refine g_aload dX6_execute_150 (by rfl) ?_
      refine g_aload dX6_execute_152 (by rfl) ?_
      refine g_callV_p (c_bk hT hD (by omega) (by omega) (by omega) (v_bn_ok ok k)) dX6_execute_154 (mX2_backUp) rfl lX6_130 iX2_backUp vX2_backUp (by decide) (by omega) (by exact hdd) rfl rfl rfl rfl (Nat.le_of_ble_eq_true rfl) (fun v9 h9 z9 => ?_)
      obtain ⟨rfl, qd, qt, qoff⟩ := z9
      obtain ⟨hm9, z1, z2⟩ := qoff.mid (by omega)
      refine g_pop dX6_execute_157 (by rfl) ?_
      refine g_iinc (nI (k + 1)) dX6_execute_158 (by rfl) (nI_inc k) ?_
      refine g_goto (tgt := 144) dX6_execute_161 (by decide) ?_
      exact g_lv (ih (k + 1) h9 (by omega) ⟨(hsc.off z1 (by omega)).off z2 (by omega), qd, qt⟩ (hoff.tr (s_off3.of2 qoff))) ⟨rfl, rfl, rfl, rfl, rfl, rfl, rfl, trivial⟩
  exact g_lv (loop m 0 h (by omega) hw s_off3.rf) ⟨rfl, rfl, rfl, rfl, rfl, rfl, rfl, trivial⟩

theorem c_X6_exec9 {h : s_H} {n b len q t ex cnt cp : Nat} {σ : s_D} {tx : Nat → Int32} {ek eo tk : Int32} (hw : s_sw h b σ tx len ek eo q tk t ex) (hn : b + 93 ≤ n) (ok : d_ok σ cnt cp) (a c : Int32) : s_Mt TX6_execute 0 0 [.ref (b + 89), .ref (s_big + 100 + 9), .int a, .int c, .ref (b + 6), .ref (b + 68)] h n (s_rp n (fun v9 h1 => v9 = some (.int (if d_room σ cnt < 0 then 0 else 1)) ∧ s_sw h1 b (if d_room σ cnt < 0 then σ else d_kps σ (r_se (u_best σ cnt cp)) cnt) tx len (if d_room σ cnt < 0 then 3 else ek) (if d_room σ cnt < 0 then nI t else eo) q tk t ex ∧ s_off3 h h1 b) s_no) := by
  obtain ⟨hsc, hD, hT⟩ := id hw
  have hs := hsc.1
  have hx := hsc.2
  have hdd := ok.hd hD
  have u1 := hD.2.1
  have u2 := hD.2.2.1
  have u3 := hD.2.2.2.1
  have u4 := hD.2.2.2.2
  have hc14 := ok.2.1
  have hc100 := ok.2.2.2.1
  refine s_Mt_of rfl (by decide) (by exact Nat.le_of_ble_eq_true rfl) ?_
  refine g_kmap rfl dX6_execute_0 ?_
  refine g_aload_n dX6_execute_3 rfl (by rfl) ?_
  refine g_ord (j := 9) (by omega) rfl dX6_execute_4 (Nat.le_of_ble_eq_true rfl) ?_
  refine g_kmat (j := 9) (by omega) rfl dX6_execute_7 ?_
  refine g_tabIn (tgt := 189) (off := 181) dX6_execute_8 (by decide) (by decide) (by decide) (by decide) ?_
  refine g_aload dX6_execute_189 (by rfl) ?_
  refine g_callV_e (c_X2_room hD (by omega) ok.1 ok.2.1) dX6_execute_191 (mX2_room) rfl lX6_140 iX2_room vX2_room (by decide) (by omega) (by exact hdd) rfl rfl rfl rfl (Nat.le_of_ble_eq_true rfl) ?_
  refine g_if_ge (tgt := 203) dX6_execute_194 (by decide) (fun c_194 => ?_) (fun c_194 => ?_)
  · refine g_aload dX6_execute_203 (by rfl) ?_
    refine g_aload dX6_execute_205 (by rfl) ?_
    refine g_aload dX6_execute_207 (by rfl) ?_
    refine g_getf dX6_execute_209 fX6_127 (by exact hdd) (by omega) (by rfl) ?_
    obtain ⟨τ, hTt, hT0⟩ := id hT
    refine g_callV_p (c_X7_build (cnt := cnt) (lc := cp) hTt hD (by omega) (by omega) (by omega) ok.1 ok.2.1 ok.sz (by omega)) dX6_execute_212 (mX7_build) rfl lX6_143 iX7_build vX7_build (by decide) (by omega) (by exact hTt.1) rfl rfl rfl rfl (Nat.le_of_ble_eq_true rfl) (fun v9 h9 z9 => ?_)
    obtain ⟨rfl, qtab, qoff⟩ := z9
    have hz0 := u_z hT0 hc100
    have hT := u_t0 qtab hT0
    have hsc := hsc.off qoff (by omega)
    have hD := hD.off qoff (by omega)
    have hdd := ok.hd hD
    have hoff : s_off3 h h9 b := s_off3.of qoff (by omega)
    refine g_aload dX6_execute_215 (by rfl) ?_
    refine g_aload dX6_execute_217 (by rfl) ?_
    refine g_aload dX6_execute_219 (by rfl) ?_
    refine g_getf dX6_execute_221 fX6_127 (by exact hdd) (by omega) (by rfl) ?_
    refine g_callV_e (c_X7_bestFor qtab (by omega) (u_row_lt ok hz0) (nI cp) (u_hzb ok hz0 hc100)) dX6_execute_224 (mX7_bestFor) rfl lX6_149 iX7_bestFor vX7_bestFor (by decide) (by omega) (by exact qtab.1) rfl rfl rfl rfl (Nat.le_of_ble_eq_true rfl) ?_
    rw [u_best_of ok hz0 (Nat.le_refl _) hc100]
    refine g_callSN_e (c_X8_rankSetOrEmpty _) dX6_execute_227 (mX8_rankSetOrEmpty) rfl lX6_153 sX8_rankSetOrEmpty (by decide) rfl rfl (Nat.le_of_ble_eq_true rfl) ?_
    refine g_callV_p (c_X2_keep hD (by omega) ok.1 ok.2.1 _) dX6_execute_230 (mX2_keep) rfl lX6_157 iX2_keep vX2_keep (by decide) (by omega) (by exact hdd) rfl rfl rfl rfl (Nat.le_of_ble_eq_true rfl) (fun v9 h9 z9 => ?_)
    obtain ⟨rfl, qd, qoff⟩ := z9
    have hw9 : s_sw h9 b (d_kps σ (r_se (u_best σ cnt cp)) cnt) tx len ek eo q tk t ex := ⟨hsc.off qoff (by omega), qd, hT.off qoff (by omega)⟩
    have hoff := hoff.tr (s_off3.of qoff (by omega))
    refine g_pop dX6_execute_233 (by rfl) ?_
    refine g_iconst 1 dX6_execute_234 (by rfl) ?_
    refine g_zreturn dX6_execute_235 rfl (by decide) ?_
    exact ⟨rfl, by rw [if_neg (Int32.not_lt.mpr c_194)], by rw [if_neg (Int32.not_lt.mpr c_194), if_neg (Int32.not_lt.mpr c_194), if_neg (Int32.not_lt.mpr c_194)]; exact hw9, hoff⟩
  · refine g_aload_n dX6_execute_197 rfl (by rfl) ?_
    refine g_iconst 3 dX6_execute_198 (by rfl) ?_
    refine g_callV_p (c_X6_fail hsc (by omega) _) dX6_execute_199 (mX6_fail) rfl lX6_46 iX6_fail vX6_fail (by decide) (by omega) (by exact hs) rfl rfl rfl rfl (Nat.le_of_ble_eq_true rfl) (fun v9 h9 z9 => ?_)
    obtain ⟨rfl, qs, qoff⟩ := z9
    have hw9 : s_sw h9 b σ tx len 3 (nI t) q tk t ex := ⟨qs, hD.off qoff (by omega), hT.off qoff (by omega)⟩
    have hoff : s_off3 h h9 b := s_off3.of qoff (by omega)
    refine g_zreturn dX6_execute_202 rfl (by decide) ?_
    exact ⟨rfl, by rw [if_pos (Int32.not_le.mp c_194)], by rw [if_pos (Int32.not_le.mp c_194), if_pos (Int32.not_le.mp c_194), if_pos (Int32.not_le.mp c_194)]; exact hw9, hoff⟩
