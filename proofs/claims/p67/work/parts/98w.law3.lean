/-! THE LAW: isSound (written by wip/p67/law3.py) -/
theorem c_L_isSound {h : s_H} {n b : Nat} {π : s_Pl} (hP : s_pl h b π) (hn : b + 93 ≤ n) {cnt cp : Nat} (ok : d_ok π.1 cnt cp) : s_Mt TL_isSound 230 1380 [.ref b] h n (s_rp n (fun r h1 => r = some (.int 1) ∧ s_pl h1 b π) s_no) := by
  have h14 := ok.2.1
  have h100 := ok.2.2.2.1
  have hb := hP.1
  unfold s_po at hb
  refine s_Mt_of rfl (by decide) (by exact Nat.le_of_ble_eq_true rfl) ?_
  refine g_aload_n dL_isSound_0 rfl (by rfl) ?_
  refine g_callV_p (c_X8_violations hP hn ok) dL_isSound_1 (mX8_violations) rfl lL_185 iX8_violations vX8_violations (by decide) (by omega) (by exact hb) rfl rfl rfl rfl (Nat.le_of_ble_eq_true rfl) (fun v9 h9 z9 => ?_)
  obtain ⟨rfl, hP, -⟩ := z9
  clear hb
  have hb := hP.1
  unfold s_po at hb
  rw [f_vio ok]
  have loop : ∀ r i h, s_pl h b π → i + r = cnt → s_G TL_isSound (s_rp n (fun r h1 => r = some (.int 1) ∧ s_pl h1 b π) s_no) 18 (s_lvs [(0, .ref b), (1, .int (d_set π.1 1 (i))), (2, .int (d_set π.1 2 (i))), (3, .int (nI (u_nf π.1 (i)))), (4, .int (nI (i)))]) [] h n (6 * r + 140) (36 * r + 840) := by
    intro r
    induction r with
    | zero =>
      intro i h hP hi
      have hb := hP.1
      unfold s_po at hb
      obtain rfl : cnt = i := by omega
      refine g_iload dL_isSound_18 (by rfl) ?_
      refine g_aload_n dL_isSound_20 rfl (by rfl) ?_
      refine g_callV_e (c_X8_itemCount hP hn) dL_isSound_21 (mX8_itemCount) rfl lL_149 iX8_itemCount vX8_itemCount (by decide) (by omega) (by exact hb) rfl rfl rfl rfl (Nat.le_of_ble_eq_true rfl) ?_
      rw [ok.1]
      refine g_icmp_ge (tgt := 134) dL_isSound_24 (by decide) (fun _ => ?_) (fun c_24 => absurd (i_ge (Nat.le_refl _) (by omega)) c_24)
      refine g_aload_n dL_isSound_134 rfl (by rfl) ?_
      refine g_callV_e (c_X8_pinnedItems hP hn ok) dL_isSound_135 (mX8_pinnedItems) rfl lL_194 iX8_pinnedItems vX8_pinnedItems (by decide) (by omega) (by exact hb) rfl rfl rfl rfl (Nat.le_of_ble_eq_true rfl) ?_
      refine g_iload_n dL_isSound_138 rfl (by rfl) ?_
      refine g_icmp_ne (tgt := 185) dL_isSound_139 (by decide) (fun c_139 => absurd rfl c_139) (fun _ => ?_)
      refine g_aload_n dL_isSound_142 rfl (by rfl) ?_
      refine g_callV_e (c_X8_pinnedSize hP hn ok) dL_isSound_143 (mX8_pinnedSize) rfl lL_197 iX8_pinnedSize vX8_pinnedSize (by decide) (by omega) (by exact hb) rfl rfl rfl rfl (Nat.le_of_ble_eq_true rfl) ?_
      refine g_aload_n dL_isSound_146 rfl (by rfl) ?_
      refine g_iload_n dL_isSound_147 rfl (by rfl) ?_
      refine g_callS (rest := [.int (d_tot (π.1.1 0) (d_set π.1 1 cnt) cnt)]) (c_L_sizeOf hP hn ok (d_set π.1 1 cnt)) dL_isSound_148 mL_sizeOf rfl lL_200 sL_sizeOf (by decide) rfl rfl (Nat.le_of_ble_eq_true rfl) (by omega) (by omega) s_re.same (fun v9 h9 z9 => ?_) (fun E h' z => by cases z.1)
      obtain ⟨z1, z2, -⟩ := z9
      obtain rfl := z2.symm
      cases z1
      refine g_icmp_ne (tgt := 185) dL_isSound_151 (by decide) (fun c_151 => absurd rfl c_151) (fun _ => ?_)
      refine g_aload_n dL_isSound_154 rfl (by rfl) ?_
      refine g_callV_e (c_X8_freeCount hP hn ok) dL_isSound_155 (mX8_freeCount) rfl lL_203 iX8_freeCount vX8_freeCount (by decide) (by omega) (by exact hb) rfl rfl rfl rfl (Nat.le_of_ble_eq_true rfl) ?_
      refine g_iload_n dL_isSound_158 rfl (by rfl) ?_
      refine g_icmp_ne (tgt := 185) dL_isSound_159 (by decide) (fun c_159 => absurd (s_bc_free h14) c_159) (fun _ => ?_)
      by_cases hp : k_P π.1 cnt ≤ cp
      · have hneg : ¬ d_room π.1 cnt < 0 := fun z => by have := (f_rneg ok).mp z; omega
        obtain ⟨t1, t2, t3, -, t5⟩ := k_tell ok h100 hp
        obtain ⟨G, g1, g2, g3, g4⟩ := f_gp ok hp
        obtain ⟨B, b1, b2, b3⟩ := f_vb ok hp
        have hGT := f_ple ok g2 g3 g4
        have hTs : ka_sm (k_s π.1) (k_T π.1 cnt (cp - k_P π.1 cnt)) cnt ≤ cp := by
          have := f_Ts (σ := π.1) (cnt := cnt) (r := cp - k_P π.1 cnt)
          omega
        have hTw := (k_psb ok (t := k_T π.1 cnt (cp - k_P π.1 cnt)) cnt (Nat.le_refl _)).2
        refine g_aload_n dL_isSound_162 rfl (by rfl) ?_
        refine g_callV_e (c_X8_hasPlan hP hn ok) dL_isSound_163 (mX8_hasPlan) rfl lL_206 iX8_hasPlan vX8_hasPlan (by decide) (by omega) (by exact hb) rfl rfl rfl rfl (Nat.le_of_ble_eq_true rfl) ?_
        rw [if_neg hneg]
        refine g_aload_n dL_isSound_166 rfl (by rfl) ?_
        refine g_callV_e (c_X8_pinnedSize hP hn ok) dL_isSound_167 (mX8_pinnedSize) rfl lL_197 iX8_pinnedSize vX8_pinnedSize (by decide) (by omega) (by exact hb) rfl rfl rfl rfl (Nat.le_of_ble_eq_true rfl) ?_
        rw [f_psz ok]
        refine g_aload_n dL_isSound_170 rfl (by rfl) ?_
        refine g_callV_e (c_X8_capacity hP hn) dL_isSound_171 (mX8_capacity) rfl lL_210 iX8_capacity vX8_capacity (by decide) (by omega) (by exact hb) rfl rfl rfl rfl (Nat.le_of_ble_eq_true rfl) ?_
        rw [ok.2.2.1]
        refine g_icmp_gt (tgt := 181) dL_isSound_174 (by decide) (fun c_174 => absurd c_174 (i_nlt hp (by omega))) (fun _ => ?_)
        refine g_iconst 1 dL_isSound_177 (by rfl) ?_
        refine g_goto (tgt := 182) dL_isSound_178 (by decide) ?_
        refine g_icmp_eq (tgt := 187) dL_isSound_182 (by decide) (fun _ => ?_) (fun c_182 => absurd rfl c_182)
        refine g_aload_n dL_isSound_187 rfl (by rfl) ?_
        refine g_callV_p (c_X8_bestPlan hP hn ok) dL_isSound_188 (mX8_bestPlan) rfl lL_213 iX8_bestPlan vX8_bestPlan (by decide) (by omega) (by exact hb) rfl rfl rfl rfl (Nat.le_of_ble_eq_true rfl) (fun v9 h9 z9 => ?_)
        obtain ⟨rfl, hP, -⟩ := z9
        have hb := hP.1
        unfold s_po at hb
        rw [t3]
        refine g_istore dL_isSound_191 (by decide) ?_
        refine g_aload_n dL_isSound_193 rfl (by rfl) ?_
        refine g_callV_p (c_X8_greedyPlan hP hn ok) dL_isSound_194 (mX8_greedyPlan) rfl lL_216 iX8_greedyPlan vX8_greedyPlan (by decide) (by omega) (by exact hb) rfl rfl rfl rfl (Nat.le_of_ble_eq_true rfl) (fun v9 h9 z9 => ?_)
        obtain ⟨rfl, hP, -⟩ := z9
        have hb := hP.1
        unfold s_po at hb
        rw [if_neg hneg, g1]
        refine g_istore dL_isSound_197 (by decide) ?_
        refine g_lv (l := [(0, .ref b), (1, .int (d_set π.1 1 cnt)), (2, .int (d_set π.1 2 cnt)), (3, .int (nI (u_nf π.1 cnt))), (4, .int (nI (ka_sm ka_p2 (k_T π.1 cnt (cp - k_P π.1 cnt)) cnt))), (5, .int (nI (ka_sm ka_p2 G cnt)))]) ?_ ⟨by rfl, by rfl, by rfl, by rfl, by rfl, by rfl, trivial⟩
        refine g_aload_n dL_isSound_199 rfl (by rfl) ?_
        refine g_callV_e (c_X8_hasPlan hP hn ok) dL_isSound_200 (mX8_hasPlan) rfl lL_206 iX8_hasPlan vX8_hasPlan (by decide) (by omega) (by exact hb) rfl rfl rfl rfl (Nat.le_of_ble_eq_true rfl) ?_
        rw [if_neg hneg]
        refine g_if_ne (tgt := 263) dL_isSound_203 (by decide) (fun _ => ?_) (fun c_203 => absurd c_203 (by decide))
        refine g_iload dL_isSound_263 (by rfl) ?_
        refine g_iload_n dL_isSound_265 rfl (by rfl) ?_
        refine g_iand dL_isSound_266 ?_
        refine g_iload_n dL_isSound_267 rfl (by rfl) ?_
        refine g_icmp_ne (tgt := 331) dL_isSound_268 (by decide) (fun c_268 => absurd (f_pin (by omega) f_Tp) c_268) (fun _ => ?_)
        refine g_iload dL_isSound_271 (by rfl) ?_
        refine g_iload_n dL_isSound_273 rfl (by rfl) ?_
        refine g_iand dL_isSound_274 ?_
        refine g_if_ne (tgt := 331) dL_isSound_275 (by decide) (fun c_275 => absurd (f_exc (by omega) f_Tpf) c_275) (fun _ => ?_)
        refine g_aload_n dL_isSound_278 rfl (by rfl) ?_
        refine g_callV_p (c_X8_bestSize hP hn ok) dL_isSound_279 (mX8_bestSize) rfl lL_222 iX8_bestSize vX8_bestSize (by decide) (by omega) (by exact hb) rfl rfl rfl rfl (Nat.le_of_ble_eq_true rfl) (fun v9 h9 z9 => ?_)
        obtain ⟨rfl, hP, -⟩ := z9
        have hb := hP.1
        unfold s_po at hb
        rw [t2]
        refine g_aload_n dL_isSound_282 rfl (by rfl) ?_
        refine g_iload dL_isSound_283 (by rfl) ?_
        refine g_callS (rest := [.int (nI (ka_sm (k_s π.1) (k_T π.1 cnt (cp - k_P π.1 cnt)) cnt))]) (c_L_sizeOf hP hn ok (nI (ka_sm ka_p2 (k_T π.1 cnt (cp - k_P π.1 cnt)) cnt))) dL_isSound_285 mL_sizeOf rfl lL_200 sL_sizeOf (by decide) rfl rfl (Nat.le_of_ble_eq_true rfl) (by omega) (by omega) s_re.same (fun v9 h9 z9 => ?_) (fun E h' z => by cases z.1)
        obtain ⟨z1, z2, -⟩ := z9
        obtain rfl := z2.symm
        cases z1
        refine g_icmp_ne (tgt := 331) dL_isSound_288 (by decide) (fun c_288 => absurd (k_tot0 ok).symm c_288) (fun _ => ?_)
        refine g_aload_n dL_isSound_291 rfl (by rfl) ?_
        refine g_callV_p (c_X8_bestWeight hP hn ok) dL_isSound_292 (mX8_bestWeight) rfl lL_219 iX8_bestWeight vX8_bestWeight (by decide) (by omega) (by exact hb) rfl rfl rfl rfl (Nat.le_of_ble_eq_true rfl) (fun v9 h9 z9 => ?_)
        obtain ⟨rfl, hP, -⟩ := z9
        have hb := hP.1
        unfold s_po at hb
        rw [t1]
        refine g_aload_n dL_isSound_295 rfl (by rfl) ?_
        refine g_iload dL_isSound_296 (by rfl) ?_
        refine g_callS (rest := [.int (nI (ka_sm (k_w π.1) (k_T π.1 cnt (cp - k_P π.1 cnt)) cnt))]) (c_L_weightOf hP hn ok (nI (ka_sm ka_p2 (k_T π.1 cnt (cp - k_P π.1 cnt)) cnt))) dL_isSound_298 mL_weightOf rfl lL_234 sL_weightOf (by decide) rfl rfl (Nat.le_of_ble_eq_true rfl) (by omega) (by omega) s_re.same (fun v9 h9 z9 => ?_) (fun E h' z => by cases z.1)
        obtain ⟨z1, z2, -⟩ := z9
        obtain rfl := z2.symm
        cases z1
        refine g_icmp_ne (tgt := 331) dL_isSound_301 (by decide) (fun c_301 => absurd (k_totw ok).symm c_301) (fun _ => ?_)
        refine g_aload_n dL_isSound_304 rfl (by rfl) ?_
        refine g_callV_p (c_X8_bestSize hP hn ok) dL_isSound_305 (mX8_bestSize) rfl lL_222 iX8_bestSize vX8_bestSize (by decide) (by omega) (by exact hb) rfl rfl rfl rfl (Nat.le_of_ble_eq_true rfl) (fun v9 h9 z9 => ?_)
        obtain ⟨rfl, hP, -⟩ := z9
        have hb := hP.1
        unfold s_po at hb
        rw [t2]
        refine g_aload_n dL_isSound_308 rfl (by rfl) ?_
        refine g_callV_e (c_X8_capacity hP hn) dL_isSound_309 (mX8_capacity) rfl lL_210 iX8_capacity vX8_capacity (by decide) (by omega) (by exact hb) rfl rfl rfl rfl (Nat.le_of_ble_eq_true rfl) ?_
        rw [ok.2.2.1]
        refine g_icmp_gt (tgt := 331) dL_isSound_312 (by decide) (fun c_312 => absurd c_312 (i_nlt hTs (by omega))) (fun _ => ?_)
        refine g_aload_n dL_isSound_315 rfl (by rfl) ?_
        refine g_callV_p (c_X8_slack hP hn ok) dL_isSound_316 (mX8_slack) rfl lL_225 iX8_slack vX8_slack (by decide) (by omega) (by exact hb) rfl rfl rfl rfl (Nat.le_of_ble_eq_true rfl) (fun v9 h9 z9 => ?_)
        obtain ⟨rfl, hP, -⟩ := z9
        have hb := hP.1
        unfold s_po at hb
        rw [if_neg t5, t2]
        refine g_aload_n dL_isSound_319 rfl (by rfl) ?_
        refine g_callV_e (c_X8_capacity hP hn) dL_isSound_320 (mX8_capacity) rfl lL_210 iX8_capacity vX8_capacity (by decide) (by omega) (by exact hb) rfl rfl rfl rfl (Nat.le_of_ble_eq_true rfl) ?_
        rw [ok.2.2.1]
        refine g_aload_n dL_isSound_323 rfl (by rfl) ?_
        refine g_callV_p (c_X8_bestSize hP hn ok) dL_isSound_324 (mX8_bestSize) rfl lL_222 iX8_bestSize vX8_bestSize (by decide) (by omega) (by exact hb) rfl rfl rfl rfl (Nat.le_of_ble_eq_true rfl) (fun v9 h9 z9 => ?_)
        obtain ⟨rfl, hP, -⟩ := z9
        have hb := hP.1
        unfold s_po at hb
        rw [t2]
        refine g_isub dL_isSound_327 ?_
        refine g_icmp_eq (tgt := 333) dL_isSound_328 (by decide) (fun _ => ?_) (fun c_328 => absurd rfl c_328)
        refine g_iload dL_isSound_333 (by rfl) ?_
        refine g_iload_n dL_isSound_335 rfl (by rfl) ?_
        refine g_iand dL_isSound_336 ?_
        refine g_iload_n dL_isSound_337 rfl (by rfl) ?_
        refine g_icmp_ne (tgt := 374) dL_isSound_338 (by decide) (fun c_338 => absurd (f_pin (by omega) g2) c_338) (fun _ => ?_)
        refine g_iload dL_isSound_341 (by rfl) ?_
        refine g_iload_n dL_isSound_343 rfl (by rfl) ?_
        refine g_iand dL_isSound_344 ?_
        refine g_if_ne (tgt := 374) dL_isSound_345 (by decide) (fun c_345 => absurd (f_exc (by omega) g3) c_345) (fun _ => ?_)
        refine g_aload_n dL_isSound_348 rfl (by rfl) ?_
        refine g_iload dL_isSound_349 (by rfl) ?_
        refine g_callS (rest := []) (c_L_sizeOf hP hn ok (nI (ka_sm ka_p2 G cnt))) dL_isSound_351 mL_sizeOf rfl lL_200 sL_sizeOf (by decide) rfl rfl (Nat.le_of_ble_eq_true rfl) (by omega) (by omega) s_re.same (fun v9 h9 z9 => ?_) (fun E h' z => by cases z.1)
        obtain ⟨z1, z2, -⟩ := z9
        obtain rfl := z2.symm
        cases z1
        refine g_aload_n dL_isSound_354 rfl (by rfl) ?_
        refine g_callV_e (c_X8_capacity hP hn) dL_isSound_355 (mX8_capacity) rfl lL_210 iX8_capacity vX8_capacity (by decide) (by omega) (by exact hb) rfl rfl rfl rfl (Nat.le_of_ble_eq_true rfl) ?_
        rw [ok.2.2.1]
        rw [k_tot0 ok]
        refine g_icmp_gt (tgt := 374) dL_isSound_358 (by decide) (fun c_358 => absurd c_358 (i_nlt g4 (by omega))) (fun _ => ?_)
        refine g_aload_n dL_isSound_361 rfl (by rfl) ?_
        refine g_callV_p (c_X8_greedyWeight hP hn ok) dL_isSound_362 (mX8_greedyWeight) rfl lL_237 iX8_greedyWeight vX8_greedyWeight (by decide) (by omega) (by exact hb) rfl rfl rfl rfl (Nat.le_of_ble_eq_true rfl) (fun v9 h9 z9 => ?_)
        obtain ⟨rfl, hP, -⟩ := z9
        have hb := hP.1
        unfold s_po at hb
        rw [if_neg hneg, g1]
        refine g_aload_n dL_isSound_365 rfl (by rfl) ?_
        refine g_iload dL_isSound_366 (by rfl) ?_
        refine g_callS (rest := [.int (d_tot (d_wt π.1) (nI (ka_sm ka_p2 G cnt)) cnt)]) (c_L_weightOf hP hn ok (nI (ka_sm ka_p2 G cnt))) dL_isSound_368 mL_weightOf rfl lL_234 sL_weightOf (by decide) rfl rfl (Nat.le_of_ble_eq_true rfl) (by omega) (by omega) s_re.same (fun v9 h9 z9 => ?_) (fun E h' z => by cases z.1)
        obtain ⟨z1, z2, -⟩ := z9
        obtain rfl := z2.symm
        cases z1
        refine g_icmp_eq (tgt := 376) dL_isSound_371 (by decide) (fun _ => ?_) (fun c_371 => absurd rfl c_371)
        refine g_aload_n dL_isSound_376 rfl (by rfl) ?_
        refine g_callV_p (c_X8_greedyWeight hP hn ok) dL_isSound_377 (mX8_greedyWeight) rfl lL_237 iX8_greedyWeight vX8_greedyWeight (by decide) (by omega) (by exact hb) rfl rfl rfl rfl (Nat.le_of_ble_eq_true rfl) (fun v9 h9 z9 => ?_)
        obtain ⟨rfl, hP, -⟩ := z9
        have hb := hP.1
        unfold s_po at hb
        rw [if_neg hneg, g1, k_totw ok]
        refine g_aload_n dL_isSound_380 rfl (by rfl) ?_
        refine g_callV_p (c_X8_bestWeight hP hn ok) dL_isSound_381 (mX8_bestWeight) rfl lL_219 iX8_bestWeight vX8_bestWeight (by decide) (by omega) (by exact hb) rfl rfl rfl rfl (Nat.le_of_ble_eq_true rfl) (fun v9 h9 z9 => ?_)
        obtain ⟨rfl, hP, -⟩ := z9
        have hb := hP.1
        unfold s_po at hb
        rw [t1]
        refine g_icmp_gt (tgt := 402) dL_isSound_384 (by decide) (fun c_384 => absurd c_384 (i_nlt hGT (by omega))) (fun _ => ?_)
        refine g_aload_n dL_isSound_387 rfl (by rfl) ?_
        refine g_callV_p (c_X8_bestWeight hP hn ok) dL_isSound_388 (mX8_bestWeight) rfl lL_219 iX8_bestWeight vX8_bestWeight (by decide) (by omega) (by exact hb) rfl rfl rfl rfl (Nat.le_of_ble_eq_true rfl) (fun v9 h9 z9 => ?_)
        obtain ⟨rfl, hP, -⟩ := z9
        have hb := hP.1
        unfold s_po at hb
        rw [t1]
        refine g_aload_n dL_isSound_391 rfl (by rfl) ?_
        refine g_callV_p (c_X8_upperBound hP hn ok) dL_isSound_392 (mX8_upperBound) rfl lL_228 iX8_upperBound vX8_upperBound (by decide) (by omega) (by exact hb) rfl rfl rfl rfl (Nat.le_of_ble_eq_true rfl) (fun v9 h9 z9 => ?_)
        obtain ⟨rfl, hP, -⟩ := z9
        have hb := hP.1
        unfold s_po at hb
        rw [if_neg hneg, b1]
        refine g_icmp_gt (tgt := 402) dL_isSound_395 (by decide) (fun c_395 => absurd c_395 (i_nlt b3 (by omega))) (fun _ => ?_)
        refine g_iconst 1 dL_isSound_398 (by rfl) ?_
        refine g_goto (tgt := 403) dL_isSound_399 (by decide) ?_
        refine g_istore dL_isSound_403 (by decide) ?_
        refine g_iload dL_isSound_405 (by rfl) ?_
        refine g_if_eq (tgt := 449) dL_isSound_407 (by decide) (fun c_407 => absurd c_407 (by decide)) (fun _ => ?_)
        refine g_aload_n dL_isSound_410 rfl (by rfl) ?_
        refine g_callV_p (c_X8_optimalPlans hP hn ok) dL_isSound_411 (mX8_optimalPlans) rfl lL_231 iX8_optimalPlans vX8_optimalPlans (by decide) (by omega) (by exact hb) rfl rfl rfl rfl (Nat.le_of_ble_eq_true rfl) (fun v9 h9 z9 => ?_)
        obtain ⟨⟨τ, hτ, rfl⟩, hP, -⟩ := z9
        have hb := hP.1
        unfold s_po at hb
        obtain ⟨y, y1, y2, y3⟩ := f_opt ok hτ hp
        rw [if_neg hneg, y1]
        refine g_iconst 1 dL_isSound_414 (by rfl) ?_
        refine g_icmp_lt (tgt := 449) dL_isSound_415 (by decide) (fun c_415 => absurd c_415 (i_nlt (a := 1) y2 (by omega))) (fun _ => ?_)
        refine g_aload_n dL_isSound_418 rfl (by rfl) ?_
        refine g_callV_p (c_X8_bestWeight hP hn ok) dL_isSound_419 (mX8_bestWeight) rfl lL_219 iX8_bestWeight vX8_bestWeight (by decide) (by omega) (by exact hb) rfl rfl rfl rfl (Nat.le_of_ble_eq_true rfl) (fun v9 h9 z9 => ?_)
        obtain ⟨rfl, hP, -⟩ := z9
        have hb := hP.1
        unfold s_po at hb
        refine g_aload_n dL_isSound_422 rfl (by rfl) ?_
        refine g_iload_n dL_isSound_423 rfl (by rfl) ?_
        refine g_aload_n dL_isSound_424 rfl (by rfl) ?_
        refine g_callV_e (c_X8_capacity hP hn) dL_isSound_425 (mX8_capacity) rfl lL_210 iX8_capacity vX8_capacity (by decide) (by omega) (by exact hb) rfl rfl rfl rfl (Nat.le_of_ble_eq_true rfl) ?_
        rw [ok.2.2.1]
        refine g_aload_n dL_isSound_428 rfl (by rfl) ?_
        refine g_callV_e (c_X8_pinnedSize hP hn ok) dL_isSound_429 (mX8_pinnedSize) rfl lL_197 iX8_pinnedSize vX8_pinnedSize (by decide) (by omega) (by exact hb) rfl rfl rfl rfl (Nat.le_of_ble_eq_true rfl) ?_
        rw [f_psz ok]
        refine g_isub dL_isSound_432 ?_
        rw [nI_sble hp]
        refine g_callSH (rest := [.int (r_wt (u_best π.1 cnt cp))]) (c_L_cell_ hP hn ok (Nat.le_refl _) (c := cp - k_P π.1 cnt) (by omega)) dL_isSound_433 mL_cell_ rfl lL_240 sL_cell_ (by decide) rfl rfl (Nat.le_of_ble_eq_true rfl) (by omega) (by omega) s_rp.same (fun E h' z => z.2) (fun v9 h9 z9 => ?_)
        obtain ⟨-, z1, hP, -⟩ := z9
        cases z1
        have hb := hP.1
        unfold s_po at hb
        refine g_aload_n dL_isSound_436 rfl (by rfl) ?_
        refine g_iload_n dL_isSound_437 rfl (by rfl) ?_
        refine g_callS (rest := [.int (u_cell π.1 cnt (u_nf π.1 cnt) (cp - k_P π.1 cnt)), .int (r_wt (u_best π.1 cnt cp))]) (c_L_weightOf hP hn ok (d_set π.1 1 cnt)) dL_isSound_438 mL_weightOf rfl lL_234 sL_weightOf (by decide) rfl rfl (Nat.le_of_ble_eq_true rfl) (by omega) (by omega) s_re.same (fun v9 h9 z9 => ?_) (fun E h' z => by cases z.1)
        obtain ⟨z1, z2, -⟩ := z9
        obtain rfl := z2.symm
        cases z1
        refine g_iadd dL_isSound_441 ?_
        refine g_icmp_ne (tgt := 449) dL_isSound_442 (by decide) (fun c_442 => absurd (f_bw ok hp) c_442) (fun _ => ?_)
        refine g_iconst 1 dL_isSound_445 (by rfl) ?_
        refine g_goto (tgt := 450) dL_isSound_446 (by decide) ?_
        refine g_zreturn dL_isSound_450 rfl (by decide) ?_
        exact ⟨rfl, rfl, hP⟩
      · have hp : cp < k_P π.1 cnt := by omega
        have hPb := f_Pb ok
        have hneg := (f_rneg ok).mpr hp
        refine g_aload_n dL_isSound_162 rfl (by rfl) ?_
        refine g_callV_e (c_X8_hasPlan hP hn ok) dL_isSound_163 (mX8_hasPlan) rfl lL_206 iX8_hasPlan vX8_hasPlan (by decide) (by omega) (by exact hb) rfl rfl rfl rfl (Nat.le_of_ble_eq_true rfl) ?_
        rw [if_pos hneg]
        refine g_aload_n dL_isSound_166 rfl (by rfl) ?_
        refine g_callV_e (c_X8_pinnedSize hP hn ok) dL_isSound_167 (mX8_pinnedSize) rfl lL_197 iX8_pinnedSize vX8_pinnedSize (by decide) (by omega) (by exact hb) rfl rfl rfl rfl (Nat.le_of_ble_eq_true rfl) ?_
        rw [f_psz ok]
        refine g_aload_n dL_isSound_170 rfl (by rfl) ?_
        refine g_callV_e (c_X8_capacity hP hn) dL_isSound_171 (mX8_capacity) rfl lL_210 iX8_capacity vX8_capacity (by decide) (by omega) (by exact hb) rfl rfl rfl rfl (Nat.le_of_ble_eq_true rfl) ?_
        rw [ok.2.2.1]
        refine g_icmp_gt (tgt := 181) dL_isSound_174 (by decide) (fun _ => ?_) (fun c_174 => absurd (nI_lt hp (by omega)) c_174)
        refine g_iconst 0 dL_isSound_181 (by rfl) ?_
        refine g_icmp_eq (tgt := 187) dL_isSound_182 (by decide) (fun _ => ?_) (fun c_182 => absurd rfl c_182)
        refine g_aload_n dL_isSound_187 rfl (by rfl) ?_
        refine g_callV_p (c_X8_bestPlan hP hn ok) dL_isSound_188 (mX8_bestPlan) rfl lL_213 iX8_bestPlan vX8_bestPlan (by decide) (by omega) (by exact hb) rfl rfl rfl rfl (Nat.le_of_ble_eq_true rfl) (fun v9 h9 z9 => ?_)
        obtain ⟨rfl, hP, -⟩ := z9
        have hb := hP.1
        unfold s_po at hb
        rw [f_no ok hp]
        refine g_istore dL_isSound_191 (by decide) ?_
        refine g_aload_n dL_isSound_193 rfl (by rfl) ?_
        refine g_callV_p (c_X8_greedyPlan hP hn ok) dL_isSound_194 (mX8_greedyPlan) rfl lL_216 iX8_greedyPlan vX8_greedyPlan (by decide) (by omega) (by exact hb) rfl rfl rfl rfl (Nat.le_of_ble_eq_true rfl) (fun v9 h9 z9 => ?_)
        obtain ⟨rfl, hP, -⟩ := z9
        have hb := hP.1
        unfold s_po at hb
        rw [if_pos hneg]
        refine g_istore dL_isSound_197 (by decide) ?_
        refine g_aload_n dL_isSound_199 rfl (by rfl) ?_
        refine g_callV_e (c_X8_hasPlan hP hn ok) dL_isSound_200 (mX8_hasPlan) rfl lL_206 iX8_hasPlan vX8_hasPlan (by decide) (by omega) (by exact hb) rfl rfl rfl rfl (Nat.le_of_ble_eq_true rfl) ?_
        rw [if_pos hneg]
        refine g_if_ne (tgt := 263) dL_isSound_203 (by decide) (fun c_203 => absurd rfl c_203) (fun _ => ?_)
        refine g_iload dL_isSound_206 (by rfl) ?_
        refine g_iconst (-1) dL_isSound_208 (by rfl) ?_
        refine g_icmp_ne (tgt := 261) dL_isSound_209 (by decide) (fun c_209 => absurd (by decide) c_209) (fun _ => ?_)
        refine g_iload dL_isSound_212 (by rfl) ?_
        refine g_iconst (-1) dL_isSound_214 (by rfl) ?_
        refine g_icmp_ne (tgt := 261) dL_isSound_215 (by decide) (fun c_215 => absurd rfl c_215) (fun _ => ?_)
        refine g_aload_n dL_isSound_218 rfl (by rfl) ?_
        refine g_callV_p (c_X8_bestWeight hP hn ok) dL_isSound_219 (mX8_bestWeight) rfl lL_219 iX8_bestWeight vX8_bestWeight (by decide) (by omega) (by exact hb) rfl rfl rfl rfl (Nat.le_of_ble_eq_true rfl) (fun v9 h9 z9 => ?_)
        obtain ⟨rfl, hP, -⟩ := z9
        have hb := hP.1
        unfold s_po at hb
        refine g_iconst (-1) dL_isSound_222 (by rfl) ?_
        rw [f_no ok hp]
        refine g_icmp_ne (tgt := 261) dL_isSound_223 (by decide) (fun c_223 => absurd (by decide) c_223) (fun _ => ?_)
        refine g_aload_n dL_isSound_226 rfl (by rfl) ?_
        refine g_callV_p (c_X8_bestSize hP hn ok) dL_isSound_227 (mX8_bestSize) rfl lL_222 iX8_bestSize vX8_bestSize (by decide) (by omega) (by exact hb) rfl rfl rfl rfl (Nat.le_of_ble_eq_true rfl) (fun v9 h9 z9 => ?_)
        obtain ⟨rfl, hP, -⟩ := z9
        have hb := hP.1
        unfold s_po at hb
        refine g_iconst (-1) dL_isSound_230 (by rfl) ?_
        rw [f_no ok hp]
        refine g_icmp_ne (tgt := 261) dL_isSound_231 (by decide) (fun c_231 => absurd (by decide) c_231) (fun _ => ?_)
        refine g_aload_n dL_isSound_234 rfl (by rfl) ?_
        refine g_callV_p (c_X8_slack hP hn ok) dL_isSound_235 (mX8_slack) rfl lL_225 iX8_slack vX8_slack (by decide) (by omega) (by exact hb) rfl rfl rfl rfl (Nat.le_of_ble_eq_true rfl) (fun v9 h9 z9 => ?_)
        obtain ⟨rfl, hP, -⟩ := z9
        have hb := hP.1
        unfold s_po at hb
        refine g_iconst (-1) dL_isSound_238 (by rfl) ?_
        rw [if_pos (f_no ok hp)]
        refine g_icmp_ne (tgt := 261) dL_isSound_239 (by decide) (fun c_239 => absurd rfl c_239) (fun _ => ?_)
        refine g_aload_n dL_isSound_242 rfl (by rfl) ?_
        refine g_callV_p (c_X8_upperBound hP hn ok) dL_isSound_243 (mX8_upperBound) rfl lL_228 iX8_upperBound vX8_upperBound (by decide) (by omega) (by exact hb) rfl rfl rfl rfl (Nat.le_of_ble_eq_true rfl) (fun v9 h9 z9 => ?_)
        obtain ⟨rfl, hP, -⟩ := z9
        have hb := hP.1
        unfold s_po at hb
        refine g_iconst (-1) dL_isSound_246 (by rfl) ?_
        rw [if_pos hneg]
        refine g_icmp_ne (tgt := 261) dL_isSound_247 (by decide) (fun c_247 => absurd rfl c_247) (fun _ => ?_)
        refine g_aload_n dL_isSound_250 rfl (by rfl) ?_
        refine g_callV_p (c_X8_optimalPlans hP hn ok) dL_isSound_251 (mX8_optimalPlans) rfl lL_231 iX8_optimalPlans vX8_optimalPlans (by decide) (by omega) (by exact hb) rfl rfl rfl rfl (Nat.le_of_ble_eq_true rfl) (fun v9 h9 z9 => ?_)
        obtain ⟨⟨τ, hτ, rfl⟩, hP, -⟩ := z9
        have hb := hP.1
        unfold s_po at hb
        rw [if_pos hneg]
        refine g_if_ne (tgt := 261) dL_isSound_254 (by decide) (fun c_254 => absurd rfl c_254) (fun _ => ?_)
        refine g_iconst 1 dL_isSound_257 (by rfl) ?_
        refine g_goto (tgt := 262) dL_isSound_258 (by decide) ?_
        refine g_zreturn dL_isSound_262 rfl (by decide) ?_
        exact ⟨rfl, rfl, hP⟩
    | succ r ih =>
      intro i h hP hi
      have hb := hP.1
      unfold s_po at hb
      refine g_iload dL_isSound_18 (by rfl) ?_
      refine g_aload_n dL_isSound_20 rfl (by rfl) ?_
      refine g_callV_e (c_X8_itemCount hP hn) dL_isSound_21 (mX8_itemCount) rfl lL_149 iX8_itemCount vX8_itemCount (by decide) (by omega) (by exact hb) rfl rfl rfl rfl (Nat.le_of_ble_eq_true rfl) ?_
      rw [ok.1]
      refine g_icmp_ge (tgt := 134) dL_isSound_24 (by decide) (fun c_24 => absurd c_24 (i_nge (by omega) (by omega))) (fun _ => ?_)
      refine g_aload_n dL_isSound_27 rfl (by rfl) ?_
      refine g_iload dL_isSound_28 (by rfl) ?_
      refine g_callSH (rest := []) (c_L_state hP hn ok (i := i) (by omega)) dL_isSound_30 mL_state rfl lL_188 sL_state (by decide) rfl rfl (Nat.le_of_ble_eq_true rfl) (by omega) (by omega) s_re.same (fun E h' z => by cases z.1) (fun v9 h9 z9 => ?_)
      obtain ⟨z1, z2, -⟩ := z9
      obtain rfl := z2.symm
      cases z1
      refine g_istore dL_isSound_33 (by decide) ?_
      refine g_lv (l := [(0, .ref b), (1, .int (d_set π.1 1 (i))), (2, .int (d_set π.1 2 (i))), (3, .int (nI (u_nf π.1 (i)))), (4, .int (nI i)), (5, .int (π.1.1 3 i))]) ?_ ⟨by rfl, by rfl, by rfl, by rfl, by rfl, by rfl, trivial⟩
      refine g_sub (kc' := 6 * (r + 1) - 1 + 140) (ks' := 36 * (r + 1) - 6 + 840) ?_ (fun _ _ z => z) (by omega) (by omega)
      suffices k51 : s_G TL_isSound (s_rp n (fun r h1 => r = some (.int 1) ∧ s_pl h1 b π) s_no) 51 (s_lvs [(0, .ref b), (1, .int (d_set π.1 1 (i))), (2, .int (d_set π.1 2 (i))), (3, .int (nI (u_nf π.1 (i)))), (4, .int (nI i)), (5, .int (π.1.1 3 i))]) [.int (d_set π.1 1 (i + 1))] h n (6 * (r + 1) - 1 + 140) (36 * (r + 1) - 6 + 840) by
        refine g_iload_n dL_isSound_35 rfl (by rfl) ?_
        refine g_iload dL_isSound_36 (by rfl) ?_
        refine g_iconst 1 dL_isSound_38 (by rfl) ?_
        refine g_icmp_ne (tgt := 49) dL_isSound_39 (by decide) (fun c_39 => ?_) (fun c_39 => ?_)
        · refine g_iconst 0 dL_isSound_49 (by rfl) ?_
          refine g_ior dL_isSound_50 ?_
          refine g_top (d_set π.1 1 (i + 1)) (by first | rw [d_set, if_pos c_39] | rw [d_set, if_neg c_39, Int32.or_zero]) ?_
          exact k51
        · refine g_iconst 1 dL_isSound_42 (by rfl) ?_
          refine g_iload dL_isSound_43 (by rfl) ?_
          refine g_ishl dL_isSound_45 ?_
          refine g_goto (tgt := 50) dL_isSound_46 (by decide) ?_
          refine g_ior dL_isSound_50 ?_
          refine g_top (d_set π.1 1 (i + 1)) (by first | rw [d_set, if_pos c_39] | rw [d_set, if_neg c_39, Int32.or_zero]) ?_
          exact k51
      refine g_istore_n dL_isSound_51 rfl (by decide) ?_
      refine g_lv (l := [(0, .ref b), (1, .int (d_set π.1 1 (i + 1))), (2, .int (d_set π.1 2 (i))), (3, .int (nI (u_nf π.1 (i)))), (4, .int (nI i)), (5, .int (π.1.1 3 i))]) ?_ ⟨by rfl, by rfl, by rfl, by rfl, by rfl, by rfl, trivial⟩
      suffices k68 : s_G TL_isSound (s_rp n (fun r h1 => r = some (.int 1) ∧ s_pl h1 b π) s_no) 68 (s_lvs [(0, .ref b), (1, .int (d_set π.1 1 (i + 1))), (2, .int (d_set π.1 2 (i))), (3, .int (nI (u_nf π.1 (i)))), (4, .int (nI i)), (5, .int (π.1.1 3 i))]) [.int (d_set π.1 2 (i + 1))] h n (6 * (r + 1) - 1 + 140) (36 * (r + 1) - 6 + 840) by
        refine g_iload_n dL_isSound_52 rfl (by rfl) ?_
        refine g_iload dL_isSound_53 (by rfl) ?_
        refine g_iconst 2 dL_isSound_55 (by rfl) ?_
        refine g_icmp_ne (tgt := 66) dL_isSound_56 (by decide) (fun c_56 => ?_) (fun c_56 => ?_)
        · refine g_iconst 0 dL_isSound_66 (by rfl) ?_
          refine g_ior dL_isSound_67 ?_
          refine g_top (d_set π.1 2 (i + 1)) (by first | rw [d_set, if_pos c_56] | rw [d_set, if_neg c_56, Int32.or_zero]) ?_
          exact k68
        · refine g_iconst 1 dL_isSound_59 (by rfl) ?_
          refine g_iload dL_isSound_60 (by rfl) ?_
          refine g_ishl dL_isSound_62 ?_
          refine g_goto (tgt := 67) dL_isSound_63 (by decide) ?_
          refine g_ior dL_isSound_67 ?_
          refine g_top (d_set π.1 2 (i + 1)) (by first | rw [d_set, if_pos c_56] | rw [d_set, if_neg c_56, Int32.or_zero]) ?_
          exact k68
      refine g_istore_n dL_isSound_68 rfl (by decide) ?_
      refine g_lv (l := [(0, .ref b), (1, .int (d_set π.1 1 (i + 1))), (2, .int (d_set π.1 2 (i + 1))), (3, .int (nI (u_nf π.1 (i)))), (4, .int (nI i)), (5, .int (π.1.1 3 i))]) ?_ ⟨by rfl, by rfl, by rfl, by rfl, by rfl, by rfl, trivial⟩
      suffices k81 : s_G TL_isSound (s_rp n (fun r h1 => r = some (.int 1) ∧ s_pl h1 b π) s_no) 81 (s_lvs [(0, .ref b), (1, .int (d_set π.1 1 (i + 1))), (2, .int (d_set π.1 2 (i + 1))), (3, .int (nI (u_nf π.1 (i)))), (4, .int (nI i)), (5, .int (π.1.1 3 i))]) [.int (nI (u_nf π.1 (i + 1)))] h n (6 * (r + 1) - 1 + 140) (36 * (r + 1) - 6 + 840) by
        refine g_iload_n dL_isSound_69 rfl (by rfl) ?_
        refine g_iload dL_isSound_70 (by rfl) ?_
        refine g_if_ne (tgt := 79) dL_isSound_72 (by decide) (fun c_72 => ?_) (fun c_72 => ?_)
        · refine g_iconst 0 dL_isSound_79 (by rfl) ?_
          refine g_iadd dL_isSound_80 ?_
          refine g_top (nI (u_nf π.1 (i + 1))) (by first | (rw [u_nf, if_pos c_72]; exact nI_1 _) | rw [u_nf, if_neg c_72, Int32.add_zero]) ?_
          exact k81
        · refine g_iconst 1 dL_isSound_75 (by rfl) ?_
          refine g_goto (tgt := 80) dL_isSound_76 (by decide) ?_
          refine g_iadd dL_isSound_80 ?_
          refine g_top (nI (u_nf π.1 (i + 1))) (by first | (rw [u_nf, if_pos c_72]; exact nI_1 _) | rw [u_nf, if_neg c_72, Int32.add_zero]) ?_
          exact k81
      refine g_istore_n dL_isSound_81 rfl (by decide) ?_
      refine g_lv (l := [(0, .ref b), (1, .int (d_set π.1 1 (i + 1))), (2, .int (d_set π.1 2 (i + 1))), (3, .int (nI (u_nf π.1 (i + 1)))), (4, .int (nI i)), (5, .int (π.1.1 3 i))]) ?_ ⟨by rfl, by rfl, by rfl, by rfl, by rfl, by rfl, trivial⟩
      obtain ⟨-, -, ⟨a, ha, ha9⟩, -⟩ := ok.2.2.2.2 i (by omega)
      refine g_aload_n dL_isSound_82 rfl (by rfl) ?_
      refine g_iload dL_isSound_83 (by rfl) ?_
      refine g_callSH (rest := []) (c_L_age hP hn ok (i := i) (by omega)) dL_isSound_85 mL_age rfl lL_190 sL_age (by decide) rfl rfl (Nat.le_of_ble_eq_true rfl) (by omega) (by omega) s_re.same (fun E h' z => by cases z.1) (fun v9 h9 z9 => ?_)
      obtain ⟨z1, z2, -⟩ := z9
      obtain rfl := z2.symm
      cases z1
      rw [ha]
      refine g_if_lt (tgt := 126) dL_isSound_88 (by decide) (fun c_88 => absurd c_88 (nI_pos (by omega))) (fun _ => ?_)
      refine g_aload_n dL_isSound_91 rfl (by rfl) ?_
      refine g_iload dL_isSound_92 (by rfl) ?_
      refine g_callSH (rest := []) (c_L_age hP hn ok (i := i) (by omega)) dL_isSound_94 mL_age rfl lL_190 sL_age (by decide) rfl rfl (Nat.le_of_ble_eq_true rfl) (by omega) (by omega) s_re.same (fun E h' z => by cases z.1) (fun v9 h9 z9 => ?_)
      obtain ⟨z1, z2, -⟩ := z9
      obtain rfl := z2.symm
      cases z1
      refine g_bipush 9 dL_isSound_97 (by rfl) ?_
      rw [ha]
      refine g_icmp_gt (tgt := 126) dL_isSound_99 (by decide) (fun c_99 => absurd c_99 (i_nlt (b := 9) ha9 (by omega))) (fun _ => ?_)
      refine g_aload_n dL_isSound_102 rfl (by rfl) ?_
      refine g_iload dL_isSound_103 (by rfl) ?_
      refine g_callSH (rest := []) (c_L_weight hP hn ok (i := i) (by omega)) dL_isSound_105 mL_weight rfl lL_183 sL_weight (by decide) rfl rfl (Nat.le_of_ble_eq_true rfl) (by omega) (by omega) s_re.same (fun E h' z => by cases z.1) (fun v9 h9 z9 => ?_)
      obtain ⟨z1, z2, -⟩ := z9
      obtain rfl := z2.symm
      cases z1
      refine g_aload_n dL_isSound_108 rfl (by rfl) ?_
      refine g_iload dL_isSound_109 (by rfl) ?_
      refine g_callSH (rest := [.int (d_wt π.1 i)]) (c_L_value hP hn ok (i := i) (by omega)) dL_isSound_111 mL_value rfl lL_192 sL_value (by decide) rfl rfl (Nat.le_of_ble_eq_true rfl) (by omega) (by omega) s_re.same (fun E h' z => by cases z.1) (fun v9 h9 z9 => ?_)
      obtain ⟨z1, z2, -⟩ := z9
      obtain rfl := z2.symm
      cases z1
      refine g_iconst 1 dL_isSound_114 (by rfl) ?_
      refine g_aload_n dL_isSound_115 rfl (by rfl) ?_
      refine g_iload dL_isSound_116 (by rfl) ?_
      refine g_callSH (rest := [.int 1, .int (π.1.1 1 i), .int (d_wt π.1 i)]) (c_L_age hP hn ok (i := i) (by omega)) dL_isSound_118 mL_age rfl lL_190 sL_age (by decide) rfl rfl (Nat.le_of_ble_eq_true rfl) (by omega) (by omega) s_re.same (fun E h' z => by cases z.1) (fun v9 h9 z9 => ?_)
      obtain ⟨z1, z2, -⟩ := z9
      obtain rfl := z2.symm
      cases z1
      refine g_iadd dL_isSound_121 ?_
      refine g_imul dL_isSound_122 ?_
      refine g_icmp_eq (tgt := 128) dL_isSound_123 (by decide) (fun _ => ?_) (fun c_123 => absurd rfl c_123)
      refine g_iinc (nI (i + 1)) dL_isSound_128 (by rfl) (nI_inc i) ?_
      refine g_goto (tgt := 18) dL_isSound_131 (by decide) ?_
      exact g_sub (g_lv (l := [(0, .ref b), (1, .int (d_set π.1 1 (i + 1))), (2, .int (d_set π.1 2 (i + 1))), (3, .int (nI (u_nf π.1 (i + 1)))), (4, .int (nI (i + 1)))]) (ih (i + 1) _ hP (by omega)) ⟨by rfl, by rfl, by rfl, by rfl, by rfl, trivial⟩) (fun _ _ z => z) (by omega) (by omega)
  refine g_if_eq (tgt := 9) dL_isSound_4 (by decide) (fun _ => ?_) (fun c_4 => absurd rfl c_4)
  refine g_iconst 0 dL_isSound_9 (by rfl) ?_
  refine g_istore_n dL_isSound_10 rfl (by decide) ?_
  refine g_iconst 0 dL_isSound_11 (by rfl) ?_
  refine g_istore_n dL_isSound_12 rfl (by decide) ?_
  refine g_iconst 0 dL_isSound_13 (by rfl) ?_
  refine g_istore_n dL_isSound_14 rfl (by decide) ?_
  refine g_iconst 0 dL_isSound_15 (by rfl) ?_
  refine g_istore dL_isSound_16 (by decide) ?_
  exact g_sub (g_lv (l := [(0, .ref b), (1, .int (d_set π.1 1 (0))), (2, .int (d_set π.1 2 (0))), (3, .int (nI (u_nf π.1 (0)))), (4, .int (nI (0)))]) (loop cnt 0 _ hP (by omega)) ⟨by rfl, by rfl, by rfl, by rfl, by rfl, trivial⟩) (fun _ _ z => z) (by omega) (by omega)
