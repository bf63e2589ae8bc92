/-! THE LAW'S CASES 0 .. 9 (written by wip/src/law5.py) -/
theorem w_c0 {L t kc ks : Nat} {xs : Nat → Int32} (hL : L ≤ 3072) (ht : 6 * t + 6 ≤ L) (K : w_K L xs t kc ks) {h : s_H} {π : s_Pl} (q : w_St h π) : s_GL (s_Os L xs) TL_law w_Φ 312 (s_lvs (w_lv t)) [] h 115 (kc + 2) (ks + 12) := by
  obtain ⟨hP, ⟨t0, hR⟩, ⟨f0, ho⟩, hby⟩ := q
  obtain ⟨cnt, cp, ok⟩ := hR.ok
  have hl := hR.l
  have hlen := hR.len
  have hb := hP.1
  unfold s_po at hb
  refine gl_aload_n dL_law_312 rfl (by rfl) ?_
  refine gl_aload_n dL_law_313 rfl (by rfl) ?_
  refine gl_iload dL_law_314 (by rfl) ?_
  refine gl_iconst (nI 1) dL_law_316 (by rfl) ?_
  refine gl_iadd dL_law_317 ?_
  refine gl_sld hL dL_law_318 (nI_add _ _) (by omega) ?_
  refine gl_aload_n dL_law_319 rfl (by rfl) ?_
  refine gl_iload dL_law_320 (by rfl) ?_
  refine gl_iconst (nI 2) dL_law_322 (by rfl) ?_
  refine gl_iadd dL_law_323 ?_
  refine gl_sld hL dL_law_324 (nI_add _ _) (by omega) ?_
  refine gl_aload_n dL_law_325 rfl (by rfl) ?_
  refine gl_iload dL_law_326 (by rfl) ?_
  refine gl_iconst (nI 3) dL_law_328 (by rfl) ?_
  refine gl_iadd dL_law_329 ?_
  refine gl_sld hL dL_law_330 (nI_add _ _) (by omega) ?_
  refine gl_aload_n dL_law_331 rfl (by rfl) ?_
  refine gl_iload dL_law_332 (by rfl) ?_
  refine gl_iconst (nI 4) dL_law_334 (by rfl) ?_
  refine gl_iadd dL_law_335 ?_
  refine gl_sld hL dL_law_336 (nI_add _ _) (by omega) ?_
  refine gl_aload_n dL_law_337 rfl (by rfl) ?_
  refine gl_iload dL_law_338 (by rfl) ?_
  refine gl_iconst (nI 5) dL_law_340 (by rfl) ?_
  refine gl_iadd dL_law_341 ?_
  refine gl_sld hL dL_law_342 (nI_add _ _) (by omega) ?_
  refine gl_callV_p (c_X8_append hP (by omega) hlen (xs (6 * t + 1)) (xs (6 * t + 2)) (xs (6 * t + 3)) (xs (6 * t + 4)) (xs (6 * t + 5))) dL_law_343 (mX8_append) rfl lL_113 iX8_append vX8_append (by decide) (by omega) hb rfl rfl rfl rfl (Nat.le_of_ble_eq_true rfl) (fun v9 h1 z1 => ?_)
  have ho0 := ho
  have hR0 := hR
  obtain ⟨rfl, hP, qoff⟩ := z1
  have ho := (qoff 114 (by omega)).trans ho0
  have hR := hR0.off qoff (by omega)
  clear ho0 hR0
  obtain ⟨I9, hm⟩ := hR.hd
  refine gl_aload_n dL_law_346 rfl (by rfl) ?_
  refine gl_aload_n dL_law_347 rfl (by rfl) ?_
  refine gl_iload dL_law_348 (by rfl) ?_
  refine gl_iconst (nI 1) dL_law_350 (by rfl) ?_
  refine gl_iadd dL_law_351 ?_
  refine gl_sld hL dL_law_352 (nI_add _ _) (by omega) ?_
  refine gl_aload_n dL_law_353 rfl (by rfl) ?_
  refine gl_iload dL_law_354 (by rfl) ?_
  refine gl_iconst (nI 2) dL_law_356 (by rfl) ?_
  refine gl_iadd dL_law_357 ?_
  refine gl_sld hL dL_law_358 (nI_add _ _) (by omega) ?_
  refine gl_aload_n dL_law_359 rfl (by rfl) ?_
  refine gl_iload dL_law_360 (by rfl) ?_
  refine gl_iconst (nI 3) dL_law_362 (by rfl) ?_
  refine gl_iadd dL_law_363 ?_
  refine gl_sld hL dL_law_364 (nI_add _ _) (by omega) ?_
  refine gl_aload_n dL_law_365 rfl (by rfl) ?_
  refine gl_iload dL_law_366 (by rfl) ?_
  refine gl_iconst (nI 4) dL_law_368 (by rfl) ?_
  refine gl_iadd dL_law_369 ?_
  refine gl_sld hL dL_law_370 (nI_add _ _) (by omega) ?_
  refine gl_aload_n dL_law_371 rfl (by rfl) ?_
  refine gl_iload dL_law_372 (by rfl) ?_
  refine gl_iconst (nI 5) dL_law_374 (by rfl) ?_
  refine gl_iadd dL_law_375 ?_
  refine gl_sld hL dL_law_376 (nI_add _ _) (by omega) ?_
  refine gl_callV_p (c_M_append hR (by omega) (xs (6 * t + 1)) (xs (6 * t + 2)) (xs (6 * t + 3)) (xs (6 * t + 4)) (xs (6 * t + 5))) dL_law_377 (mX9_append) rfl lL_117 iX9_append vX9_append (by decide) (by omega) hm rfl rfl rfl rfl (Nat.le_of_ble_eq_true rfl) (fun v9 h2 z2 => ?_)
  have ho1 := ho
  have hP1 := hP
  obtain ⟨rfl, hR, qoff2⟩ := z2
  have ho := (qoff2 114 (by omega)).trans ho1
  have hP := hP1.off qoff2 (by omega)
  clear ho1 hP1
  refine gl_icmp_eq (tgt := 2583) dL_law_380 (by decide) (fun _ => ?_) (fun c9 => absurd rfl c9)
  exact K.to ⟨hP, ⟨_, hR⟩, ⟨_, ho⟩, (w_byA hby)⟩ ⟨by rfl, by rfl, by rfl, by rfl, by rfl, trivial⟩ (by omega) (by omega)

theorem w_c1 {L t kc ks : Nat} {xs : Nat → Int32} (hL : L ≤ 3072) (ht : 6 * t + 6 ≤ L) (K : w_K L xs t kc ks) {h : s_H} {π : s_Pl} (q : w_St h π) : s_GL (s_Os L xs) TL_law w_Φ 385 (s_lvs (w_lv t)) [] h 115 (kc + 2) (ks + 12) := by
  obtain ⟨hP, ⟨t0, hR⟩, ⟨f0, ho⟩, hby⟩ := q
  obtain ⟨cnt, cp, ok⟩ := hR.ok
  have hl := hR.l
  have hlen := hR.len
  have hb := hP.1
  unfold s_po at hb
  refine gl_aload_n dL_law_385 rfl (by rfl) ?_
  refine gl_aload_n dL_law_386 rfl (by rfl) ?_
  refine gl_iload dL_law_387 (by rfl) ?_
  refine gl_iconst (nI 1) dL_law_389 (by rfl) ?_
  refine gl_iadd dL_law_390 ?_
  refine gl_sld hL dL_law_391 (nI_add _ _) (by omega) ?_
  refine gl_aload_n dL_law_392 rfl (by rfl) ?_
  refine gl_callSH (c_L_truncateInput hP (by omega) ho (by omega) (by omega) (xs (6 * t + 1))) dL_law_393 (mL_truncateInput) rfl lL_118 sL_truncateInput (by decide) rfl rfl (Nat.le_of_ble_eq_true rfl) (by omega) (by omega) (fun v9 h1 z1 => ?_)
  obtain ⟨z1, qoff⟩ := z1
  obtain ⟨hm9, q1, q2⟩ := qoff.mid (by omega)
  have hR := (hR.off q1 (by omega)).off q2 (by omega)
  obtain ⟨I9, hm⟩ := hR.hd
  clear hP hb ho q1 q2 qoff
  rcases z1 with ⟨hc, rfl, hP, f1, ho, hv⟩ | ⟨hc, rfl, hP, f1, ho⟩
  · refine gl_istore dL_law_396 (by decide) ?_
    refine gl_aload_n dL_law_398 rfl (by rfl) ?_
    refine gl_aload_n dL_law_399 rfl (by rfl) ?_
    refine gl_iload dL_law_400 (by rfl) ?_
    refine gl_iconst (nI 1) dL_law_402 (by rfl) ?_
    refine gl_iadd dL_law_403 ?_
    refine gl_sld hL dL_law_404 (nI_add _ _) (by omega) ?_
    refine gl_callV_p (c_M_truncateInput hR (by omega) (xs (6 * t + 1))) dL_law_405 (mX9_truncateInput) rfl lL_123 iX9_truncateInput vX9_truncateInput (by decide) (by omega) hm rfl rfl rfl rfl (Nat.le_of_ble_eq_true rfl) (fun v8 h2 z2 => ?_)
    obtain ⟨z2, qoff2⟩ := z2
    have hP1 := hP.off qoff2 (by omega)
    have ho1 := (qoff2 114 (by omega)).trans ho
    clear hP ho
    have hP := hP1
    have ho := ho1
    clear hP1 ho1 hm
    rcases z2 with ⟨hd, rfl, hR⟩ | ⟨hd, ⟨z9, rfl⟩, hR⟩
    · obtain ⟨I8, hm⟩ := hR.hd
      refine gl_istore dL_law_408 (by decide) ?_
      refine gl_aload_n dL_law_410 rfl (by rfl) ?_
      refine gl_callV_e (c_M_thrown hR (by omega)) dL_law_411 (mX9_thrown) rfl lL_124 iX9_thrown vX9_thrown (by decide) (by omega) hm rfl rfl rfl rfl (Nat.le_of_ble_eq_true rfl) ?_
      refine gl_iload dL_law_414 (by rfl) ?_
      refine gl_icmp_eq (tgt := 421) dL_law_416 (by decide) (fun _ => ?_) (fun c9 => absurd rfl c9)
      refine gl_iload dL_law_421 (by rfl) ?_
      refine gl_if_ne (tgt := 438) dL_law_423 (by decide) (fun c9 => absurd rfl c9) (fun _ => ?_)
      refine gl_aload_n dL_law_426 rfl (by rfl) ?_
      refine gl_iconst (nI 0) dL_law_427 (by rfl) ?_
      refine gl_lald dL_law_428 (by exact ho) (by omega) (by rfl) (by omega) (by omega) ?_
      rw [hv]
      refine gl_iload dL_law_429 (by rfl) ?_
      refine gl_i2l dL_law_431 ?_
      refine gl_lcmp dL_law_432 ?_
      refine gl_if_eq (tgt := 438) dL_law_433 (by decide) (fun _ => ?_) (fun c7 => absurd (w_lc _) c7)
      refine gl_goto (tgt := 2583) dL_law_438 (by decide) ?_
      exact K.to ⟨hP, ⟨_, hR⟩, ⟨_, ho⟩, (w_byT hby hc hlen)⟩ ⟨by rfl, by rfl, by rfl, by rfl, by rfl, trivial⟩ (by omega) (by omega)
    · (first | exact (hc hd).elim | exact (hd hc).elim)
  · refine gl_istore dL_law_396 (by decide) ?_
    refine gl_aload_n dL_law_398 rfl (by rfl) ?_
    refine gl_aload_n dL_law_399 rfl (by rfl) ?_
    refine gl_iload dL_law_400 (by rfl) ?_
    refine gl_iconst (nI 1) dL_law_402 (by rfl) ?_
    refine gl_iadd dL_law_403 ?_
    refine gl_sld hL dL_law_404 (nI_add _ _) (by omega) ?_
    refine gl_callV_p (c_M_truncateInput hR (by omega) (xs (6 * t + 1))) dL_law_405 (mX9_truncateInput) rfl lL_123 iX9_truncateInput vX9_truncateInput (by decide) (by omega) hm rfl rfl rfl rfl (Nat.le_of_ble_eq_true rfl) (fun v8 h2 z2 => ?_)
    obtain ⟨z2, qoff2⟩ := z2
    have hP1 := hP.off qoff2 (by omega)
    have ho1 := (qoff2 114 (by omega)).trans ho
    clear hP ho
    have hP := hP1
    have ho := ho1
    clear hP1 ho1 hm
    rcases z2 with ⟨hd, rfl, hR⟩ | ⟨hd, ⟨z9, rfl⟩, hR⟩
    · (first | exact (hc hd).elim | exact (hd hc).elim)
    · obtain ⟨I8, hm⟩ := hR.hd
      refine gl_istore dL_law_408 (by decide) ?_
      refine gl_aload_n dL_law_410 rfl (by rfl) ?_
      refine gl_callV_e (c_M_thrown hR (by omega)) dL_law_411 (mX9_thrown) rfl lL_124 iX9_thrown vX9_thrown (by decide) (by omega) hm rfl rfl rfl rfl (Nat.le_of_ble_eq_true rfl) ?_
      refine gl_iload dL_law_414 (by rfl) ?_
      refine gl_icmp_eq (tgt := 421) dL_law_416 (by decide) (fun _ => ?_) (fun c9 => absurd rfl c9)
      refine gl_iload dL_law_421 (by rfl) ?_
      refine gl_if_ne (tgt := 438) dL_law_423 (by decide) (fun _ => ?_) (fun c9 => absurd c9 (by decide))
      refine gl_goto (tgt := 2583) dL_law_438 (by decide) ?_
      exact K.to ⟨hP, ⟨_, hR⟩, ⟨_, ho⟩, hby⟩ ⟨by rfl, by rfl, by rfl, by rfl, by rfl, trivial⟩ (by omega) (by omega)

theorem w_c2 {L t kc ks : Nat} {xs : Nat → Int32} (hL : L ≤ 3072) (ht : 6 * t + 6 ≤ L) (K : w_K L xs t kc ks) {h : s_H} {π : s_Pl} (q : w_St h π) : s_GL (s_Os L xs) TL_law w_Φ 441 (s_lvs (w_lv t)) [] h 115 (kc + 2) (ks + 12) := by
  obtain ⟨hP, ⟨t0, hR⟩, ⟨f0, ho⟩, hby⟩ := q
  obtain ⟨cnt, cp, ok⟩ := hR.ok
  have hl := hR.l
  have hlen := hR.len
  have hb := hP.1
  unfold s_po at hb
  refine gl_aload_n dL_law_441 rfl (by rfl) ?_
  refine gl_callV_e (c_X8_inputLength hP (by omega)) dL_law_442 (mX8_inputLength) rfl lL_127 iX8_inputLength vX8_inputLength (by decide) (by omega) hb rfl rfl rfl rfl (Nat.le_of_ble_eq_true rfl) ?_
  obtain ⟨I9, hm⟩ := hR.hd
  refine gl_aload_n dL_law_445 rfl (by rfl) ?_
  refine gl_callV_p (c_M_inputLength hR (by omega)) dL_law_446 (mX9_inputLength) rfl lL_130 iX9_inputLength vX9_inputLength (by decide) (by omega) hm rfl rfl rfl rfl (Nat.le_of_ble_eq_true rfl) (fun v9 h2 z2 => ?_)
  have ho1 := ho
  have hP1 := hP
  obtain ⟨rfl, hR, qoff2⟩ := z2
  have ho := (qoff2 114 (by omega)).trans ho1
  have hP := hP1.off qoff2 (by omega)
  clear ho1 hP1
  refine gl_icmp_eq (tgt := 2583) dL_law_449 (by decide) (fun _ => ?_) (fun c9 => absurd rfl c9)
  exact K.to ⟨hP, ⟨_, hR⟩, ⟨_, ho⟩, hby⟩ ⟨by rfl, by rfl, by rfl, by rfl, by rfl, trivial⟩ (by omega) (by omega)

theorem w_c3 {L t kc ks : Nat} {xs : Nat → Int32} (hL : L ≤ 3072) (ht : 6 * t + 6 ≤ L) (K : w_K L xs t kc ks) {h : s_H} {π : s_Pl} (q : w_St h π) : s_GL (s_Os L xs) TL_law w_Φ 454 (s_lvs (w_lv t)) [] h 115 (kc + 2) (ks + 12) := by
  obtain ⟨hP, ⟨t0, hR⟩, ⟨f0, ho⟩, hby⟩ := q
  obtain ⟨cnt, cp, ok⟩ := hR.ok
  have hl := hR.l
  have hlen := hR.len
  have hb := hP.1
  unfold s_po at hb
  refine gl_aload_n dL_law_454 rfl (by rfl) ?_
  refine gl_callV_p (c_X8_runScript hP (by omega) hlen hl) dL_law_455 (mX8_runScript) rfl lL_131 iX8_runScript vX8_runScript (by decide) (by omega) hb rfl rfl rfl rfl (Nat.le_of_ble_eq_true rfl) (fun v9 h1 z1 => ?_)
  have ho0 := ho
  have hR0 := hR
  obtain ⟨⟨σ0, rfl, hP⟩, qoff⟩ := z1
  have ho := (qoff 114 (by omega)).trans ho0
  have hR := hR0.off qoff (by omega)
  clear ho0 hR0
  obtain ⟨I9, hm⟩ := hR.hd
  refine gl_aload_n dL_law_458 rfl (by rfl) ?_
  refine gl_callV_p (c_M_runScript hR (by omega) ok hby σ0) dL_law_459 (mX9_runScript) rfl lL_134 iX9_runScript vX9_runScript (by decide) (by omega) hm rfl rfl rfl rfl (Nat.le_of_ble_eq_true rfl) (fun v9 h2 z2 => ?_)
  have ho1 := ho
  have hP1 := hP
  obtain ⟨rfl, hR, qoff2⟩ := z2
  have ho := (qoff2 114 (by omega)).trans ho1
  have hP := hP1.off qoff2 (by omega)
  clear ho1 hP1
  refine gl_icmp_eq (tgt := 2583) dL_law_462 (by decide) (fun _ => ?_) (fun c9 => absurd rfl c9)
  exact K.to ⟨hP, ⟨_, hR⟩, ⟨_, ho⟩, (w_byR)⟩ ⟨by rfl, by rfl, by rfl, by rfl, by rfl, trivial⟩ (by omega) (by omega)

theorem w_c4 {L t kc ks : Nat} {xs : Nat → Int32} (hL : L ≤ 3072) (ht : 6 * t + 6 ≤ L) (K : w_K L xs t kc ks) {h : s_H} {π : s_Pl} (q : w_St h π) : s_GL (s_Os L xs) TL_law w_Φ 467 (s_lvs (w_lv t)) [] h 115 (kc + 2) (ks + 12) := by
  obtain ⟨hP, ⟨t0, hR⟩, ⟨f0, ho⟩, hby⟩ := q
  obtain ⟨cnt, cp, ok⟩ := hR.ok
  have hl := hR.l
  have hlen := hR.len
  have hb := hP.1
  unfold s_po at hb
  refine gl_aload_n dL_law_467 rfl (by rfl) ?_
  refine gl_aload_n dL_law_468 rfl (by rfl) ?_
  refine gl_iload dL_law_469 (by rfl) ?_
  refine gl_iconst (nI 1) dL_law_471 (by rfl) ?_
  refine gl_iadd dL_law_472 ?_
  refine gl_sld hL dL_law_473 (nI_add _ _) (by omega) ?_
  refine gl_aload_n dL_law_474 rfl (by rfl) ?_
  refine gl_iload dL_law_475 (by rfl) ?_
  refine gl_iconst (nI 2) dL_law_477 (by rfl) ?_
  refine gl_iadd dL_law_478 ?_
  refine gl_sld hL dL_law_479 (nI_add _ _) (by omega) ?_
  refine gl_aload_n dL_law_480 rfl (by rfl) ?_
  refine gl_callSH (c_L_addItem hP (by omega) ho (by omega) (by omega) ok hl (xs (6 * t + 1)) (xs (6 * t + 2))) dL_law_481 (mL_addItem) rfl lL_135 sL_addItem (by decide) rfl rfl (Nat.le_of_ble_eq_true rfl) (by omega) (by omega) (fun v9 h1 z1 => ?_)
  obtain ⟨z1, qoff⟩ := z1
  obtain ⟨hm9, q1, q2⟩ := qoff.mid (by omega)
  have hR := (hR.off q1 (by omega)).off q2 (by omega)
  obtain ⟨I9, hm⟩ := hR.hd
  clear hP hb ho q1 q2 qoff
  rcases z1 with ⟨hc, rfl, hP, f1, ho, hv⟩ | ⟨hc, rfl, hP, f1, ho⟩
  · refine gl_istore dL_law_484 (by decide) ?_
    refine gl_aload_n dL_law_486 rfl (by rfl) ?_
    refine gl_aload_n dL_law_487 rfl (by rfl) ?_
    refine gl_iload dL_law_488 (by rfl) ?_
    refine gl_iconst (nI 1) dL_law_490 (by rfl) ?_
    refine gl_iadd dL_law_491 ?_
    refine gl_sld hL dL_law_492 (nI_add _ _) (by omega) ?_
    refine gl_aload_n dL_law_493 rfl (by rfl) ?_
    refine gl_iload dL_law_494 (by rfl) ?_
    refine gl_iconst (nI 2) dL_law_496 (by rfl) ?_
    refine gl_iadd dL_law_497 ?_
    refine gl_sld hL dL_law_498 (nI_add _ _) (by omega) ?_
    refine gl_callV_p (c_M_addItem hR (by omega) ok (xs (6 * t + 1)) (xs (6 * t + 2))) dL_law_499 (mX9_addItem) rfl lL_138 iX9_addItem vX9_addItem (by decide) (by omega) hm rfl rfl rfl rfl (Nat.le_of_ble_eq_true rfl) (fun v8 h2 z2 => ?_)
    obtain ⟨z2, qoff2⟩ := z2
    have hP1 := hP.off qoff2 (by omega)
    have ho1 := (qoff2 114 (by omega)).trans ho
    clear hP ho
    have hP := hP1
    have ho := ho1
    clear hP1 ho1 hm
    rcases z2 with ⟨hd, rfl, hR⟩ | ⟨hd, ⟨z9, rfl⟩, hR⟩
    · obtain ⟨I8, hm⟩ := hR.hd
      refine gl_istore dL_law_502 (by decide) ?_
      refine gl_aload_n dL_law_504 rfl (by rfl) ?_
      refine gl_callV_e (c_M_thrown hR (by omega)) dL_law_505 (mX9_thrown) rfl lL_124 iX9_thrown vX9_thrown (by decide) (by omega) hm rfl rfl rfl rfl (Nat.le_of_ble_eq_true rfl) ?_
      refine gl_iload dL_law_508 (by rfl) ?_
      refine gl_icmp_eq (tgt := 515) dL_law_510 (by decide) (fun _ => ?_) (fun c9 => absurd rfl c9)
      refine gl_iload dL_law_515 (by rfl) ?_
      refine gl_if_ne (tgt := 532) dL_law_517 (by decide) (fun c9 => absurd rfl c9) (fun _ => ?_)
      refine gl_aload_n dL_law_520 rfl (by rfl) ?_
      refine gl_iconst (nI 0) dL_law_521 (by rfl) ?_
      refine gl_lald dL_law_522 (by exact ho) (by omega) (by rfl) (by omega) (by omega) ?_
      rw [hv]
      refine gl_iload dL_law_523 (by rfl) ?_
      refine gl_i2l dL_law_525 ?_
      refine gl_lcmp dL_law_526 ?_
      refine gl_if_eq (tgt := 532) dL_law_527 (by decide) (fun _ => ?_) (fun c7 => absurd (w_lc _) c7)
      refine gl_goto (tgt := 2583) dL_law_532 (by decide) ?_
      exact K.to ⟨hP, ⟨_, hR⟩, ⟨_, ho⟩, (w_byI hby)⟩ ⟨by rfl, by rfl, by rfl, by rfl, by rfl, trivial⟩ (by omega) (by omega)
    · (first | exact (hc hd).elim | exact (hd hc).elim)
  · refine gl_istore dL_law_484 (by decide) ?_
    refine gl_aload_n dL_law_486 rfl (by rfl) ?_
    refine gl_aload_n dL_law_487 rfl (by rfl) ?_
    refine gl_iload dL_law_488 (by rfl) ?_
    refine gl_iconst (nI 1) dL_law_490 (by rfl) ?_
    refine gl_iadd dL_law_491 ?_
    refine gl_sld hL dL_law_492 (nI_add _ _) (by omega) ?_
    refine gl_aload_n dL_law_493 rfl (by rfl) ?_
    refine gl_iload dL_law_494 (by rfl) ?_
    refine gl_iconst (nI 2) dL_law_496 (by rfl) ?_
    refine gl_iadd dL_law_497 ?_
    refine gl_sld hL dL_law_498 (nI_add _ _) (by omega) ?_
    refine gl_callV_p (c_M_addItem hR (by omega) ok (xs (6 * t + 1)) (xs (6 * t + 2))) dL_law_499 (mX9_addItem) rfl lL_138 iX9_addItem vX9_addItem (by decide) (by omega) hm rfl rfl rfl rfl (Nat.le_of_ble_eq_true rfl) (fun v8 h2 z2 => ?_)
    obtain ⟨z2, qoff2⟩ := z2
    have hP1 := hP.off qoff2 (by omega)
    have ho1 := (qoff2 114 (by omega)).trans ho
    clear hP ho
    have hP := hP1
    have ho := ho1
    clear hP1 ho1 hm
    rcases z2 with ⟨hd, rfl, hR⟩ | ⟨hd, ⟨z9, rfl⟩, hR⟩
    · (first | exact (hc hd).elim | exact (hd hc).elim)
    · obtain ⟨I8, hm⟩ := hR.hd
      refine gl_istore dL_law_502 (by decide) ?_
      refine gl_aload_n dL_law_504 rfl (by rfl) ?_
      refine gl_callV_e (c_M_thrown hR (by omega)) dL_law_505 (mX9_thrown) rfl lL_124 iX9_thrown vX9_thrown (by decide) (by omega) hm rfl rfl rfl rfl (Nat.le_of_ble_eq_true rfl) ?_
      refine gl_iload dL_law_508 (by rfl) ?_
      refine gl_icmp_eq (tgt := 515) dL_law_510 (by decide) (fun _ => ?_) (fun c9 => absurd rfl c9)
      refine gl_iload dL_law_515 (by rfl) ?_
      refine gl_if_ne (tgt := 532) dL_law_517 (by decide) (fun _ => ?_) (fun c9 => absurd c9 (by decide))
      refine gl_goto (tgt := 2583) dL_law_532 (by decide) ?_
      exact K.to ⟨hP, ⟨_, hR⟩, ⟨_, ho⟩, hby⟩ ⟨by rfl, by rfl, by rfl, by rfl, by rfl, trivial⟩ (by omega) (by omega)

theorem w_c5 {L t kc ks : Nat} {xs : Nat → Int32} (hL : L ≤ 3072) (ht : 6 * t + 6 ≤ L) (K : w_K L xs t kc ks) {h : s_H} {π : s_Pl} (q : w_St h π) : s_GL (s_Os L xs) TL_law w_Φ 535 (s_lvs (w_lv t)) [] h 115 (kc + 2) (ks + 12) := by
  obtain ⟨hP, ⟨t0, hR⟩, ⟨f0, ho⟩, hby⟩ := q
  obtain ⟨cnt, cp, ok⟩ := hR.ok
  have hl := hR.l
  have hlen := hR.len
  have hb := hP.1
  unfold s_po at hb
  refine gl_aload_n dL_law_535 rfl (by rfl) ?_
  refine gl_aload_n dL_law_536 rfl (by rfl) ?_
  refine gl_iload dL_law_537 (by rfl) ?_
  refine gl_iconst (nI 1) dL_law_539 (by rfl) ?_
  refine gl_iadd dL_law_540 ?_
  refine gl_sld hL dL_law_541 (nI_add _ _) (by omega) ?_
  refine gl_aload_n dL_law_542 rfl (by rfl) ?_
  refine gl_callSH (c_L_removeItem hP (by omega) ho (by omega) (by omega) ok hl (xs (6 * t + 1))) dL_law_543 (mL_removeItem) rfl lL_139 sL_removeItem (by decide) rfl rfl (Nat.le_of_ble_eq_true rfl) (by omega) (by omega) (fun v9 h1 z1 => ?_)
  obtain ⟨z1, qoff⟩ := z1
  obtain ⟨hm9, q1, q2⟩ := qoff.mid (by omega)
  have hR := (hR.off q1 (by omega)).off q2 (by omega)
  obtain ⟨I9, hm⟩ := hR.hd
  clear hP hb ho q1 q2 qoff
  rcases z1 with ⟨hc, rfl, hP, f1, ho, hv⟩ | ⟨hc, rfl, hP, f1, ho⟩
  · refine gl_istore dL_law_546 (by decide) ?_
    refine gl_aload_n dL_law_548 rfl (by rfl) ?_
    refine gl_aload_n dL_law_549 rfl (by rfl) ?_
    refine gl_iload dL_law_550 (by rfl) ?_
    refine gl_iconst (nI 1) dL_law_552 (by rfl) ?_
    refine gl_iadd dL_law_553 ?_
    refine gl_sld hL dL_law_554 (nI_add _ _) (by omega) ?_
    refine gl_callV_p (c_M_removeItem hR (by omega) ok (xs (6 * t + 1))) dL_law_555 (mX9_removeItem) rfl lL_141 iX9_removeItem vX9_removeItem (by decide) (by omega) hm rfl rfl rfl rfl (Nat.le_of_ble_eq_true rfl) (fun v8 h2 z2 => ?_)
    obtain ⟨z2, qoff2⟩ := z2
    have hP1 := hP.off qoff2 (by omega)
    have ho1 := (qoff2 114 (by omega)).trans ho
    clear hP ho
    have hP := hP1
    have ho := ho1
    clear hP1 ho1 hm
    rcases z2 with ⟨hd, rfl, hR⟩ | ⟨hd, ⟨z9, rfl⟩, hR⟩
    · obtain ⟨I8, hm⟩ := hR.hd
      refine gl_istore dL_law_558 (by decide) ?_
      refine gl_aload_n dL_law_560 rfl (by rfl) ?_
      refine gl_callV_e (c_M_thrown hR (by omega)) dL_law_561 (mX9_thrown) rfl lL_124 iX9_thrown vX9_thrown (by decide) (by omega) hm rfl rfl rfl rfl (Nat.le_of_ble_eq_true rfl) ?_
      refine gl_iload dL_law_564 (by rfl) ?_
      refine gl_icmp_eq (tgt := 571) dL_law_566 (by decide) (fun _ => ?_) (fun c9 => absurd rfl c9)
      refine gl_iload dL_law_571 (by rfl) ?_
      refine gl_if_ne (tgt := 588) dL_law_573 (by decide) (fun c9 => absurd rfl c9) (fun _ => ?_)
      refine gl_aload_n dL_law_576 rfl (by rfl) ?_
      refine gl_iconst (nI 0) dL_law_577 (by rfl) ?_
      refine gl_lald dL_law_578 (by exact ho) (by omega) (by rfl) (by omega) (by omega) ?_
      rw [hv]
      refine gl_iload dL_law_579 (by rfl) ?_
      refine gl_i2l dL_law_581 ?_
      refine gl_lcmp dL_law_582 ?_
      refine gl_if_eq (tgt := 588) dL_law_583 (by decide) (fun _ => ?_) (fun c7 => absurd (w_lc _) c7)
      refine gl_goto (tgt := 2583) dL_law_588 (by decide) ?_
      exact K.to ⟨hP, ⟨_, hR⟩, ⟨_, ho⟩, hby⟩ ⟨by rfl, by rfl, by rfl, by rfl, by rfl, trivial⟩ (by omega) (by omega)
    · (first | exact (hc hd).elim | exact (hd hc).elim)
  · refine gl_istore dL_law_546 (by decide) ?_
    refine gl_aload_n dL_law_548 rfl (by rfl) ?_
    refine gl_aload_n dL_law_549 rfl (by rfl) ?_
    refine gl_iload dL_law_550 (by rfl) ?_
    refine gl_iconst (nI 1) dL_law_552 (by rfl) ?_
    refine gl_iadd dL_law_553 ?_
    refine gl_sld hL dL_law_554 (nI_add _ _) (by omega) ?_
    refine gl_callV_p (c_M_removeItem hR (by omega) ok (xs (6 * t + 1))) dL_law_555 (mX9_removeItem) rfl lL_141 iX9_removeItem vX9_removeItem (by decide) (by omega) hm rfl rfl rfl rfl (Nat.le_of_ble_eq_true rfl) (fun v8 h2 z2 => ?_)
    obtain ⟨z2, qoff2⟩ := z2
    have hP1 := hP.off qoff2 (by omega)
    have ho1 := (qoff2 114 (by omega)).trans ho
    clear hP ho
    have hP := hP1
    have ho := ho1
    clear hP1 ho1 hm
    rcases z2 with ⟨hd, rfl, hR⟩ | ⟨hd, ⟨z9, rfl⟩, hR⟩
    · (first | exact (hc hd).elim | exact (hd hc).elim)
    · obtain ⟨I8, hm⟩ := hR.hd
      refine gl_istore dL_law_558 (by decide) ?_
      refine gl_aload_n dL_law_560 rfl (by rfl) ?_
      refine gl_callV_e (c_M_thrown hR (by omega)) dL_law_561 (mX9_thrown) rfl lL_124 iX9_thrown vX9_thrown (by decide) (by omega) hm rfl rfl rfl rfl (Nat.le_of_ble_eq_true rfl) ?_
      refine gl_iload dL_law_564 (by rfl) ?_
      refine gl_icmp_eq (tgt := 571) dL_law_566 (by decide) (fun _ => ?_) (fun c9 => absurd rfl c9)
      refine gl_iload dL_law_571 (by rfl) ?_
      refine gl_if_ne (tgt := 588) dL_law_573 (by decide) (fun _ => ?_) (fun c9 => absurd c9 (by decide))
      refine gl_goto (tgt := 2583) dL_law_588 (by decide) ?_
      exact K.to ⟨hP, ⟨_, hR⟩, ⟨_, ho⟩, hby⟩ ⟨by rfl, by rfl, by rfl, by rfl, by rfl, trivial⟩ (by omega) (by omega)

theorem w_c6 {L t kc ks : Nat} {xs : Nat → Int32} (hL : L ≤ 3072) (ht : 6 * t + 6 ≤ L) (K : w_K L xs t kc ks) {h : s_H} {π : s_Pl} (q : w_St h π) : s_GL (s_Os L xs) TL_law w_Φ 591 (s_lvs (w_lv t)) [] h 115 (kc + 2) (ks + 12) := by
  obtain ⟨hP, ⟨t0, hR⟩, ⟨f0, ho⟩, hby⟩ := q
  obtain ⟨cnt, cp, ok⟩ := hR.ok
  have hl := hR.l
  have hlen := hR.len
  have hb := hP.1
  unfold s_po at hb
  refine gl_aload_n dL_law_591 rfl (by rfl) ?_
  refine gl_aload_n dL_law_592 rfl (by rfl) ?_
  refine gl_iload dL_law_593 (by rfl) ?_
  refine gl_iconst (nI 1) dL_law_595 (by rfl) ?_
  refine gl_iadd dL_law_596 ?_
  refine gl_sld hL dL_law_597 (nI_add _ _) (by omega) ?_
  refine gl_aload_n dL_law_598 rfl (by rfl) ?_
  refine gl_iload dL_law_599 (by rfl) ?_
  refine gl_iconst (nI 2) dL_law_601 (by rfl) ?_
  refine gl_iadd dL_law_602 ?_
  refine gl_sld hL dL_law_603 (nI_add _ _) (by omega) ?_
  refine gl_aload_n dL_law_604 rfl (by rfl) ?_
  refine gl_callSH (c_L_setSize hP (by omega) ho (by omega) (by omega) ok hl (xs (6 * t + 1)) (xs (6 * t + 2))) dL_law_605 (mL_setSize) rfl lL_142 sL_setSize (by decide) rfl rfl (Nat.le_of_ble_eq_true rfl) (by omega) (by omega) (fun v9 h1 z1 => ?_)
  obtain ⟨z1, qoff⟩ := z1
  obtain ⟨hm9, q1, q2⟩ := qoff.mid (by omega)
  have hR := (hR.off q1 (by omega)).off q2 (by omega)
  obtain ⟨I9, hm⟩ := hR.hd
  clear hP hb ho q1 q2 qoff
  rcases z1 with ⟨hc, rfl, hP, f1, ho, hv⟩ | ⟨hc, rfl, hP, f1, ho⟩
  · refine gl_istore dL_law_608 (by decide) ?_
    refine gl_aload_n dL_law_610 rfl (by rfl) ?_
    refine gl_aload_n dL_law_611 rfl (by rfl) ?_
    refine gl_iload dL_law_612 (by rfl) ?_
    refine gl_iconst (nI 1) dL_law_614 (by rfl) ?_
    refine gl_iadd dL_law_615 ?_
    refine gl_sld hL dL_law_616 (nI_add _ _) (by omega) ?_
    refine gl_aload_n dL_law_617 rfl (by rfl) ?_
    refine gl_iload dL_law_618 (by rfl) ?_
    refine gl_iconst (nI 2) dL_law_620 (by rfl) ?_
    refine gl_iadd dL_law_621 ?_
    refine gl_sld hL dL_law_622 (nI_add _ _) (by omega) ?_
    refine gl_callV_p (c_M_setSize hR (by omega) ok (xs (6 * t + 1)) (xs (6 * t + 2))) dL_law_623 (mX9_setSize) rfl lL_144 iX9_setSize vX9_setSize (by decide) (by omega) hm rfl rfl rfl rfl (Nat.le_of_ble_eq_true rfl) (fun v8 h2 z2 => ?_)
    obtain ⟨z2, qoff2⟩ := z2
    have hP1 := hP.off qoff2 (by omega)
    have ho1 := (qoff2 114 (by omega)).trans ho
    clear hP ho
    have hP := hP1
    have ho := ho1
    clear hP1 ho1 hm
    rcases z2 with ⟨hd, rfl, hR⟩ | ⟨hd, ⟨z9, rfl⟩, hR⟩ | ⟨hd, ⟨z9, rfl⟩, hR⟩
    · obtain ⟨I8, hm⟩ := hR.hd
      refine gl_istore dL_law_626 (by decide) ?_
      refine gl_aload_n dL_law_628 rfl (by rfl) ?_
      refine gl_callV_e (c_M_thrown hR (by omega)) dL_law_629 (mX9_thrown) rfl lL_124 iX9_thrown vX9_thrown (by decide) (by omega) hm rfl rfl rfl rfl (Nat.le_of_ble_eq_true rfl) ?_
      refine gl_iload dL_law_632 (by rfl) ?_
      refine gl_icmp_eq (tgt := 639) dL_law_634 (by decide) (fun _ => ?_) (fun c9 => absurd rfl c9)
      refine gl_iload dL_law_639 (by rfl) ?_
      refine gl_if_ne (tgt := 656) dL_law_641 (by decide) (fun c9 => absurd rfl c9) (fun _ => ?_)
      refine gl_aload_n dL_law_644 rfl (by rfl) ?_
      refine gl_iconst (nI 0) dL_law_645 (by rfl) ?_
      refine gl_lald dL_law_646 (by exact ho) (by omega) (by rfl) (by omega) (by omega) ?_
      rw [hv]
      refine gl_iload dL_law_647 (by rfl) ?_
      refine gl_i2l dL_law_649 ?_
      refine gl_lcmp dL_law_650 ?_
      refine gl_if_eq (tgt := 656) dL_law_651 (by decide) (fun _ => ?_) (fun c7 => absurd (w_lc _) c7)
      refine gl_goto (tgt := 2583) dL_law_656 (by decide) ?_
      exact K.to ⟨hP, ⟨_, hR⟩, ⟨_, ho⟩, hby⟩ ⟨by rfl, by rfl, by rfl, by rfl, by rfl, trivial⟩ (by omega) (by omega)
    · exact (hd hc.1).elim
    · exact (hd.2 hc.2).elim
  · refine gl_istore dL_law_608 (by decide) ?_
    refine gl_aload_n dL_law_610 rfl (by rfl) ?_
    refine gl_aload_n dL_law_611 rfl (by rfl) ?_
    refine gl_iload dL_law_612 (by rfl) ?_
    refine gl_iconst (nI 1) dL_law_614 (by rfl) ?_
    refine gl_iadd dL_law_615 ?_
    refine gl_sld hL dL_law_616 (nI_add _ _) (by omega) ?_
    refine gl_aload_n dL_law_617 rfl (by rfl) ?_
    refine gl_iload dL_law_618 (by rfl) ?_
    refine gl_iconst (nI 2) dL_law_620 (by rfl) ?_
    refine gl_iadd dL_law_621 ?_
    refine gl_sld hL dL_law_622 (nI_add _ _) (by omega) ?_
    refine gl_callV_p (c_M_setSize hR (by omega) ok (xs (6 * t + 1)) (xs (6 * t + 2))) dL_law_623 (mX9_setSize) rfl lL_144 iX9_setSize vX9_setSize (by decide) (by omega) hm rfl rfl rfl rfl (Nat.le_of_ble_eq_true rfl) (fun v8 h2 z2 => ?_)
    obtain ⟨z2, qoff2⟩ := z2
    have hP1 := hP.off qoff2 (by omega)
    have ho1 := (qoff2 114 (by omega)).trans ho
    clear hP ho
    have hP := hP1
    have ho := ho1
    clear hP1 ho1 hm
    rcases z2 with ⟨hd, rfl, hR⟩ | ⟨hd, ⟨z9, rfl⟩, hR⟩ | ⟨hd, ⟨z9, rfl⟩, hR⟩
    · exact (hc hd).elim
    · simp only [if_neg hd]
      obtain ⟨I8, hm⟩ := hR.hd
      refine gl_istore dL_law_626 (by decide) ?_
      refine gl_aload_n dL_law_628 rfl (by rfl) ?_
      refine gl_callV_e (c_M_thrown hR (by omega)) dL_law_629 (mX9_thrown) rfl lL_124 iX9_thrown vX9_thrown (by decide) (by omega) hm rfl rfl rfl rfl (Nat.le_of_ble_eq_true rfl) ?_
      refine gl_iload dL_law_632 (by rfl) ?_
      refine gl_icmp_eq (tgt := 639) dL_law_634 (by decide) (fun _ => ?_) (fun c9 => absurd rfl c9)
      refine gl_iload dL_law_639 (by rfl) ?_
      refine gl_if_ne (tgt := 656) dL_law_641 (by decide) (fun _ => ?_) (fun c9 => absurd c9 (by decide))
      refine gl_goto (tgt := 2583) dL_law_656 (by decide) ?_
      exact K.to ⟨hP, ⟨_, hR⟩, ⟨_, ho⟩, hby⟩ ⟨by rfl, by rfl, by rfl, by rfl, by rfl, trivial⟩ (by omega) (by omega)
    · simp only [if_pos hd.1]
      obtain ⟨I8, hm⟩ := hR.hd
      refine gl_istore dL_law_626 (by decide) ?_
      refine gl_aload_n dL_law_628 rfl (by rfl) ?_
      refine gl_callV_e (c_M_thrown hR (by omega)) dL_law_629 (mX9_thrown) rfl lL_124 iX9_thrown vX9_thrown (by decide) (by omega) hm rfl rfl rfl rfl (Nat.le_of_ble_eq_true rfl) ?_
      refine gl_iload dL_law_632 (by rfl) ?_
      refine gl_icmp_eq (tgt := 639) dL_law_634 (by decide) (fun _ => ?_) (fun c9 => absurd rfl c9)
      refine gl_iload dL_law_639 (by rfl) ?_
      refine gl_if_ne (tgt := 656) dL_law_641 (by decide) (fun _ => ?_) (fun c9 => absurd c9 (by decide))
      refine gl_goto (tgt := 2583) dL_law_656 (by decide) ?_
      exact K.to ⟨hP, ⟨_, hR⟩, ⟨_, ho⟩, hby⟩ ⟨by rfl, by rfl, by rfl, by rfl, by rfl, trivial⟩ (by omega) (by omega)

theorem w_c7 {L t kc ks : Nat} {xs : Nat → Int32} (hL : L ≤ 3072) (ht : 6 * t + 6 ≤ L) (K : w_K L xs t kc ks) {h : s_H} {π : s_Pl} (q : w_St h π) : s_GL (s_Os L xs) TL_law w_Φ 659 (s_lvs (w_lv t)) [] h 115 (kc + 2) (ks + 12) := by
  obtain ⟨hP, ⟨t0, hR⟩, ⟨f0, ho⟩, hby⟩ := q
  obtain ⟨cnt, cp, ok⟩ := hR.ok
  have hl := hR.l
  have hlen := hR.len
  have hb := hP.1
  unfold s_po at hb
  refine gl_aload_n dL_law_659 rfl (by rfl) ?_
  refine gl_aload_n dL_law_660 rfl (by rfl) ?_
  refine gl_iload dL_law_661 (by rfl) ?_
  refine gl_iconst (nI 1) dL_law_663 (by rfl) ?_
  refine gl_iadd dL_law_664 ?_
  refine gl_sld hL dL_law_665 (nI_add _ _) (by omega) ?_
  refine gl_aload_n dL_law_666 rfl (by rfl) ?_
  refine gl_iload dL_law_667 (by rfl) ?_
  refine gl_iconst (nI 2) dL_law_669 (by rfl) ?_
  refine gl_iadd dL_law_670 ?_
  refine gl_sld hL dL_law_671 (nI_add _ _) (by omega) ?_
  refine gl_aload_n dL_law_672 rfl (by rfl) ?_
  refine gl_callSH (c_L_setValue hP (by omega) ho (by omega) (by omega) ok hl (xs (6 * t + 1)) (xs (6 * t + 2))) dL_law_673 (mL_setValue) rfl lL_145 sL_setValue (by decide) rfl rfl (Nat.le_of_ble_eq_true rfl) (by omega) (by omega) (fun v9 h1 z1 => ?_)
  obtain ⟨z1, qoff⟩ := z1
  obtain ⟨hm9, q1, q2⟩ := qoff.mid (by omega)
  have hR := (hR.off q1 (by omega)).off q2 (by omega)
  obtain ⟨I9, hm⟩ := hR.hd
  clear hP hb ho q1 q2 qoff
  rcases z1 with ⟨hc, rfl, hP, f1, ho, hv⟩ | ⟨hc, rfl, hP, f1, ho⟩
  · refine gl_istore dL_law_676 (by decide) ?_
    refine gl_aload_n dL_law_678 rfl (by rfl) ?_
    refine gl_aload_n dL_law_679 rfl (by rfl) ?_
    refine gl_iload dL_law_680 (by rfl) ?_
    refine gl_iconst (nI 1) dL_law_682 (by rfl) ?_
    refine gl_iadd dL_law_683 ?_
    refine gl_sld hL dL_law_684 (nI_add _ _) (by omega) ?_
    refine gl_aload_n dL_law_685 rfl (by rfl) ?_
    refine gl_iload dL_law_686 (by rfl) ?_
    refine gl_iconst (nI 2) dL_law_688 (by rfl) ?_
    refine gl_iadd dL_law_689 ?_
    refine gl_sld hL dL_law_690 (nI_add _ _) (by omega) ?_
    refine gl_callV_p (c_M_setValue hR (by omega) ok (xs (6 * t + 1)) (xs (6 * t + 2))) dL_law_691 (mX9_setValue) rfl lL_147 iX9_setValue vX9_setValue (by decide) (by omega) hm rfl rfl rfl rfl (Nat.le_of_ble_eq_true rfl) (fun v8 h2 z2 => ?_)
    obtain ⟨z2, qoff2⟩ := z2
    have hP1 := hP.off qoff2 (by omega)
    have ho1 := (qoff2 114 (by omega)).trans ho
    clear hP ho
    have hP := hP1
    have ho := ho1
    clear hP1 ho1 hm
    rcases z2 with ⟨hd, rfl, hR⟩ | ⟨hd, ⟨z9, rfl⟩, hR⟩ | ⟨hd, ⟨z9, rfl⟩, hR⟩
    · obtain ⟨I8, hm⟩ := hR.hd
      refine gl_istore dL_law_694 (by decide) ?_
      refine gl_aload_n dL_law_696 rfl (by rfl) ?_
      refine gl_callV_e (c_M_thrown hR (by omega)) dL_law_697 (mX9_thrown) rfl lL_124 iX9_thrown vX9_thrown (by decide) (by omega) hm rfl rfl rfl rfl (Nat.le_of_ble_eq_true rfl) ?_
      refine gl_iload dL_law_700 (by rfl) ?_
      refine gl_icmp_eq (tgt := 707) dL_law_702 (by decide) (fun _ => ?_) (fun c9 => absurd rfl c9)
      refine gl_iload dL_law_707 (by rfl) ?_
      refine gl_if_ne (tgt := 724) dL_law_709 (by decide) (fun c9 => absurd rfl c9) (fun _ => ?_)
      refine gl_aload_n dL_law_712 rfl (by rfl) ?_
      refine gl_iconst (nI 0) dL_law_713 (by rfl) ?_
      refine gl_lald dL_law_714 (by exact ho) (by omega) (by rfl) (by omega) (by omega) ?_
      rw [hv]
      refine gl_iload dL_law_715 (by rfl) ?_
      refine gl_i2l dL_law_717 ?_
      refine gl_lcmp dL_law_718 ?_
      refine gl_if_eq (tgt := 724) dL_law_719 (by decide) (fun _ => ?_) (fun c7 => absurd (w_lc _) c7)
      refine gl_goto (tgt := 2583) dL_law_724 (by decide) ?_
      exact K.to ⟨hP, ⟨_, hR⟩, ⟨_, ho⟩, hby⟩ ⟨by rfl, by rfl, by rfl, by rfl, by rfl, trivial⟩ (by omega) (by omega)
    · exact (hd hc.1).elim
    · exact (hd.2 hc.2).elim
  · refine gl_istore dL_law_676 (by decide) ?_
    refine gl_aload_n dL_law_678 rfl (by rfl) ?_
    refine gl_aload_n dL_law_679 rfl (by rfl) ?_
    refine gl_iload dL_law_680 (by rfl) ?_
    refine gl_iconst (nI 1) dL_law_682 (by rfl) ?_
    refine gl_iadd dL_law_683 ?_
    refine gl_sld hL dL_law_684 (nI_add _ _) (by omega) ?_
    refine gl_aload_n dL_law_685 rfl (by rfl) ?_
    refine gl_iload dL_law_686 (by rfl) ?_
    refine gl_iconst (nI 2) dL_law_688 (by rfl) ?_
    refine gl_iadd dL_law_689 ?_
    refine gl_sld hL dL_law_690 (nI_add _ _) (by omega) ?_
    refine gl_callV_p (c_M_setValue hR (by omega) ok (xs (6 * t + 1)) (xs (6 * t + 2))) dL_law_691 (mX9_setValue) rfl lL_147 iX9_setValue vX9_setValue (by decide) (by omega) hm rfl rfl rfl rfl (Nat.le_of_ble_eq_true rfl) (fun v8 h2 z2 => ?_)
    obtain ⟨z2, qoff2⟩ := z2
    have hP1 := hP.off qoff2 (by omega)
    have ho1 := (qoff2 114 (by omega)).trans ho
    clear hP ho
    have hP := hP1
    have ho := ho1
    clear hP1 ho1 hm
    rcases z2 with ⟨hd, rfl, hR⟩ | ⟨hd, ⟨z9, rfl⟩, hR⟩ | ⟨hd, ⟨z9, rfl⟩, hR⟩
    · exact (hc hd).elim
    · simp only [if_neg hd]
      obtain ⟨I8, hm⟩ := hR.hd
      refine gl_istore dL_law_694 (by decide) ?_
      refine gl_aload_n dL_law_696 rfl (by rfl) ?_
      refine gl_callV_e (c_M_thrown hR (by omega)) dL_law_697 (mX9_thrown) rfl lL_124 iX9_thrown vX9_thrown (by decide) (by omega) hm rfl rfl rfl rfl (Nat.le_of_ble_eq_true rfl) ?_
      refine gl_iload dL_law_700 (by rfl) ?_
      refine gl_icmp_eq (tgt := 707) dL_law_702 (by decide) (fun _ => ?_) (fun c9 => absurd rfl c9)
      refine gl_iload dL_law_707 (by rfl) ?_
      refine gl_if_ne (tgt := 724) dL_law_709 (by decide) (fun _ => ?_) (fun c9 => absurd c9 (by decide))
      refine gl_goto (tgt := 2583) dL_law_724 (by decide) ?_
      exact K.to ⟨hP, ⟨_, hR⟩, ⟨_, ho⟩, hby⟩ ⟨by rfl, by rfl, by rfl, by rfl, by rfl, trivial⟩ (by omega) (by omega)
    · simp only [if_pos hd.1]
      obtain ⟨I8, hm⟩ := hR.hd
      refine gl_istore dL_law_694 (by decide) ?_
      refine gl_aload_n dL_law_696 rfl (by rfl) ?_
      refine gl_callV_e (c_M_thrown hR (by omega)) dL_law_697 (mX9_thrown) rfl lL_124 iX9_thrown vX9_thrown (by decide) (by omega) hm rfl rfl rfl rfl (Nat.le_of_ble_eq_true rfl) ?_
      refine gl_iload dL_law_700 (by rfl) ?_
      refine gl_icmp_eq (tgt := 707) dL_law_702 (by decide) (fun _ => ?_) (fun c9 => absurd rfl c9)
      refine gl_iload dL_law_707 (by rfl) ?_
      refine gl_if_ne (tgt := 724) dL_law_709 (by decide) (fun _ => ?_) (fun c9 => absurd c9 (by decide))
      refine gl_goto (tgt := 2583) dL_law_724 (by decide) ?_
      exact K.to ⟨hP, ⟨_, hR⟩, ⟨_, ho⟩, hby⟩ ⟨by rfl, by rfl, by rfl, by rfl, by rfl, trivial⟩ (by omega) (by omega)

theorem w_c8 {L t kc ks : Nat} {xs : Nat → Int32} (hL : L ≤ 3072) (ht : 6 * t + 6 ≤ L) (K : w_K L xs t kc ks) {h : s_H} {π : s_Pl} (q : w_St h π) : s_GL (s_Os L xs) TL_law w_Φ 727 (s_lvs (w_lv t)) [] h 115 (kc + 2) (ks + 12) := by
  obtain ⟨hP, ⟨t0, hR⟩, ⟨f0, ho⟩, hby⟩ := q
  obtain ⟨cnt, cp, ok⟩ := hR.ok
  have hl := hR.l
  have hlen := hR.len
  have hb := hP.1
  unfold s_po at hb
  refine gl_aload_n dL_law_727 rfl (by rfl) ?_
  refine gl_aload_n dL_law_728 rfl (by rfl) ?_
  refine gl_iload dL_law_729 (by rfl) ?_
  refine gl_iconst (nI 1) dL_law_731 (by rfl) ?_
  refine gl_iadd dL_law_732 ?_
  refine gl_sld hL dL_law_733 (nI_add _ _) (by omega) ?_
  refine gl_aload_n dL_law_734 rfl (by rfl) ?_
  refine gl_callSH (c_L_pin hP (by omega) ho (by omega) (by omega) ok hl (xs (6 * t + 1))) dL_law_735 (mL_pin) rfl lL_148 sL_pin (by decide) rfl rfl (Nat.le_of_ble_eq_true rfl) (by omega) (by omega) (fun v9 h1 z1 => ?_)
  obtain ⟨z1, qoff⟩ := z1
  obtain ⟨hm9, q1, q2⟩ := qoff.mid (by omega)
  have hR := (hR.off q1 (by omega)).off q2 (by omega)
  obtain ⟨I9, hm⟩ := hR.hd
  clear hP hb ho q1 q2 qoff
  rcases z1 with ⟨hc, rfl, hP, f1, ho, hv⟩ | ⟨hc, rfl, hP, f1, ho⟩
  · refine gl_istore dL_law_738 (by decide) ?_
    refine gl_aload_n dL_law_740 rfl (by rfl) ?_
    refine gl_aload_n dL_law_741 rfl (by rfl) ?_
    refine gl_iload dL_law_742 (by rfl) ?_
    refine gl_iconst (nI 1) dL_law_744 (by rfl) ?_
    refine gl_iadd dL_law_745 ?_
    refine gl_sld hL dL_law_746 (nI_add _ _) (by omega) ?_
    refine gl_callV_p (c_M_pin hR (by omega) ok (xs (6 * t + 1))) dL_law_747 (mX9_pin) rfl lL_150 iX9_pin vX9_pin (by decide) (by omega) hm rfl rfl rfl rfl (Nat.le_of_ble_eq_true rfl) (fun v8 h2 z2 => ?_)
    obtain ⟨z2, qoff2⟩ := z2
    have hP1 := hP.off qoff2 (by omega)
    have ho1 := (qoff2 114 (by omega)).trans ho
    clear hP ho
    have hP := hP1
    have ho := ho1
    clear hP1 ho1 hm
    rcases z2 with ⟨hd, rfl, hR⟩ | ⟨hd, ⟨z9, rfl⟩, hR⟩
    · obtain ⟨I8, hm⟩ := hR.hd
      refine gl_istore dL_law_750 (by decide) ?_
      refine gl_aload_n dL_law_752 rfl (by rfl) ?_
      refine gl_callV_e (c_M_thrown hR (by omega)) dL_law_753 (mX9_thrown) rfl lL_124 iX9_thrown vX9_thrown (by decide) (by omega) hm rfl rfl rfl rfl (Nat.le_of_ble_eq_true rfl) ?_
      refine gl_iload dL_law_756 (by rfl) ?_
      refine gl_icmp_eq (tgt := 763) dL_law_758 (by decide) (fun _ => ?_) (fun c9 => absurd rfl c9)
      refine gl_iload dL_law_763 (by rfl) ?_
      refine gl_if_ne (tgt := 780) dL_law_765 (by decide) (fun c9 => absurd rfl c9) (fun _ => ?_)
      refine gl_aload_n dL_law_768 rfl (by rfl) ?_
      refine gl_iconst (nI 0) dL_law_769 (by rfl) ?_
      refine gl_lald dL_law_770 (by exact ho) (by omega) (by rfl) (by omega) (by omega) ?_
      rw [hv]
      refine gl_iload dL_law_771 (by rfl) ?_
      refine gl_i2l dL_law_773 ?_
      refine gl_lcmp dL_law_774 ?_
      refine gl_if_eq (tgt := 780) dL_law_775 (by decide) (fun _ => ?_) (fun c7 => absurd (w_lc _) c7)
      refine gl_goto (tgt := 2583) dL_law_780 (by decide) ?_
      exact K.to ⟨hP, ⟨_, hR⟩, ⟨_, ho⟩, hby⟩ ⟨by rfl, by rfl, by rfl, by rfl, by rfl, trivial⟩ (by omega) (by omega)
    · (first | exact (hc hd).elim | exact (hd hc).elim)
  · refine gl_istore dL_law_738 (by decide) ?_
    refine gl_aload_n dL_law_740 rfl (by rfl) ?_
    refine gl_aload_n dL_law_741 rfl (by rfl) ?_
    refine gl_iload dL_law_742 (by rfl) ?_
    refine gl_iconst (nI 1) dL_law_744 (by rfl) ?_
    refine gl_iadd dL_law_745 ?_
    refine gl_sld hL dL_law_746 (nI_add _ _) (by omega) ?_
    refine gl_callV_p (c_M_pin hR (by omega) ok (xs (6 * t + 1))) dL_law_747 (mX9_pin) rfl lL_150 iX9_pin vX9_pin (by decide) (by omega) hm rfl rfl rfl rfl (Nat.le_of_ble_eq_true rfl) (fun v8 h2 z2 => ?_)
    obtain ⟨z2, qoff2⟩ := z2
    have hP1 := hP.off qoff2 (by omega)
    have ho1 := (qoff2 114 (by omega)).trans ho
    clear hP ho
    have hP := hP1
    have ho := ho1
    clear hP1 ho1 hm
    rcases z2 with ⟨hd, rfl, hR⟩ | ⟨hd, ⟨z9, rfl⟩, hR⟩
    · (first | exact (hc hd).elim | exact (hd hc).elim)
    · obtain ⟨I8, hm⟩ := hR.hd
      refine gl_istore dL_law_750 (by decide) ?_
      refine gl_aload_n dL_law_752 rfl (by rfl) ?_
      refine gl_callV_e (c_M_thrown hR (by omega)) dL_law_753 (mX9_thrown) rfl lL_124 iX9_thrown vX9_thrown (by decide) (by omega) hm rfl rfl rfl rfl (Nat.le_of_ble_eq_true rfl) ?_
      refine gl_iload dL_law_756 (by rfl) ?_
      refine gl_icmp_eq (tgt := 763) dL_law_758 (by decide) (fun _ => ?_) (fun c9 => absurd rfl c9)
      refine gl_iload dL_law_763 (by rfl) ?_
      refine gl_if_ne (tgt := 780) dL_law_765 (by decide) (fun _ => ?_) (fun c9 => absurd c9 (by decide))
      refine gl_goto (tgt := 2583) dL_law_780 (by decide) ?_
      exact K.to ⟨hP, ⟨_, hR⟩, ⟨_, ho⟩, hby⟩ ⟨by rfl, by rfl, by rfl, by rfl, by rfl, trivial⟩ (by omega) (by omega)

theorem w_c9 {L t kc ks : Nat} {xs : Nat → Int32} (hL : L ≤ 3072) (ht : 6 * t + 6 ≤ L) (K : w_K L xs t kc ks) {h : s_H} {π : s_Pl} (q : w_St h π) : s_GL (s_Os L xs) TL_law w_Φ 783 (s_lvs (w_lv t)) [] h 115 (kc + 2) (ks + 12) := by
  obtain ⟨hP, ⟨t0, hR⟩, ⟨f0, ho⟩, hby⟩ := q
  obtain ⟨cnt, cp, ok⟩ := hR.ok
  have hl := hR.l
  have hlen := hR.len
  have hb := hP.1
  unfold s_po at hb
  refine gl_aload_n dL_law_783 rfl (by rfl) ?_
  refine gl_aload_n dL_law_784 rfl (by rfl) ?_
  refine gl_iload dL_law_785 (by rfl) ?_
  refine gl_iconst (nI 1) dL_law_787 (by rfl) ?_
  refine gl_iadd dL_law_788 ?_
  refine gl_sld hL dL_law_789 (nI_add _ _) (by omega) ?_
  refine gl_aload_n dL_law_790 rfl (by rfl) ?_
  refine gl_callSH (c_L_exclude hP (by omega) ho (by omega) (by omega) ok hl (xs (6 * t + 1))) dL_law_791 (mL_exclude) rfl lL_151 sL_exclude (by decide) rfl rfl (Nat.le_of_ble_eq_true rfl) (by omega) (by omega) (fun v9 h1 z1 => ?_)
  obtain ⟨z1, qoff⟩ := z1
  obtain ⟨hm9, q1, q2⟩ := qoff.mid (by omega)
  have hR := (hR.off q1 (by omega)).off q2 (by omega)
  obtain ⟨I9, hm⟩ := hR.hd
  clear hP hb ho q1 q2 qoff
  rcases z1 with ⟨hc, rfl, hP, f1, ho, hv⟩ | ⟨hc, rfl, hP, f1, ho⟩
  · refine gl_istore dL_law_794 (by decide) ?_
    refine gl_aload_n dL_law_796 rfl (by rfl) ?_
    refine gl_aload_n dL_law_797 rfl (by rfl) ?_
    refine gl_iload dL_law_798 (by rfl) ?_
    refine gl_iconst (nI 1) dL_law_800 (by rfl) ?_
    refine gl_iadd dL_law_801 ?_
    refine gl_sld hL dL_law_802 (nI_add _ _) (by omega) ?_
    refine gl_callV_p (c_M_exclude hR (by omega) ok (xs (6 * t + 1))) dL_law_803 (mX9_exclude) rfl lL_153 iX9_exclude vX9_exclude (by decide) (by omega) hm rfl rfl rfl rfl (Nat.le_of_ble_eq_true rfl) (fun v8 h2 z2 => ?_)
    obtain ⟨z2, qoff2⟩ := z2
    have hP1 := hP.off qoff2 (by omega)
    have ho1 := (qoff2 114 (by omega)).trans ho
    clear hP ho
    have hP := hP1
    have ho := ho1
    clear hP1 ho1 hm
    rcases z2 with ⟨hd, rfl, hR⟩ | ⟨hd, ⟨z9, rfl⟩, hR⟩
    · obtain ⟨I8, hm⟩ := hR.hd
      refine gl_istore dL_law_806 (by decide) ?_
      refine gl_aload_n dL_law_808 rfl (by rfl) ?_
      refine gl_callV_e (c_M_thrown hR (by omega)) dL_law_809 (mX9_thrown) rfl lL_124 iX9_thrown vX9_thrown (by decide) (by omega) hm rfl rfl rfl rfl (Nat.le_of_ble_eq_true rfl) ?_
      refine gl_iload dL_law_812 (by rfl) ?_
      refine gl_icmp_eq (tgt := 819) dL_law_814 (by decide) (fun _ => ?_) (fun c9 => absurd rfl c9)
      refine gl_iload dL_law_819 (by rfl) ?_
      refine gl_if_ne (tgt := 836) dL_law_821 (by decide) (fun c9 => absurd rfl c9) (fun _ => ?_)
      refine gl_aload_n dL_law_824 rfl (by rfl) ?_
      refine gl_iconst (nI 0) dL_law_825 (by rfl) ?_
      refine gl_lald dL_law_826 (by exact ho) (by omega) (by rfl) (by omega) (by omega) ?_
      rw [hv]
      refine gl_iload dL_law_827 (by rfl) ?_
      refine gl_i2l dL_law_829 ?_
      refine gl_lcmp dL_law_830 ?_
      refine gl_if_eq (tgt := 836) dL_law_831 (by decide) (fun _ => ?_) (fun c7 => absurd (w_lc _) c7)
      refine gl_goto (tgt := 2583) dL_law_836 (by decide) ?_
      exact K.to ⟨hP, ⟨_, hR⟩, ⟨_, ho⟩, hby⟩ ⟨by rfl, by rfl, by rfl, by rfl, by rfl, trivial⟩ (by omega) (by omega)
    · (first | exact (hc hd).elim | exact (hd hc).elim)
  · refine gl_istore dL_law_794 (by decide) ?_
    refine gl_aload_n dL_law_796 rfl (by rfl) ?_
    refine gl_aload_n dL_law_797 rfl (by rfl) ?_
    refine gl_iload dL_law_798 (by rfl) ?_
    refine gl_iconst (nI 1) dL_law_800 (by rfl) ?_
    refine gl_iadd dL_law_801 ?_
    refine gl_sld hL dL_law_802 (nI_add _ _) (by omega) ?_
    refine gl_callV_p (c_M_exclude hR (by omega) ok (xs (6 * t + 1))) dL_law_803 (mX9_exclude) rfl lL_153 iX9_exclude vX9_exclude (by decide) (by omega) hm rfl rfl rfl rfl (Nat.le_of_ble_eq_true rfl) (fun v8 h2 z2 => ?_)
    obtain ⟨z2, qoff2⟩ := z2
    have hP1 := hP.off qoff2 (by omega)
    have ho1 := (qoff2 114 (by omega)).trans ho
    clear hP ho
    have hP := hP1
    have ho := ho1
    clear hP1 ho1 hm
    rcases z2 with ⟨hd, rfl, hR⟩ | ⟨hd, ⟨z9, rfl⟩, hR⟩
    · (first | exact (hc hd).elim | exact (hd hc).elim)
    · obtain ⟨I8, hm⟩ := hR.hd
      refine gl_istore dL_law_806 (by decide) ?_
      refine gl_aload_n dL_law_808 rfl (by rfl) ?_
      refine gl_callV_e (c_M_thrown hR (by omega)) dL_law_809 (mX9_thrown) rfl lL_124 iX9_thrown vX9_thrown (by decide) (by omega) hm rfl rfl rfl rfl (Nat.le_of_ble_eq_true rfl) ?_
      refine gl_iload dL_law_812 (by rfl) ?_
      refine gl_icmp_eq (tgt := 819) dL_law_814 (by decide) (fun _ => ?_) (fun c9 => absurd rfl c9)
      refine gl_iload dL_law_819 (by rfl) ?_
      refine gl_if_ne (tgt := 836) dL_law_821 (by decide) (fun _ => ?_) (fun c9 => absurd c9 (by decide))
      refine gl_goto (tgt := 2583) dL_law_836 (by decide) ?_
      exact K.to ⟨hP, ⟨_, hR⟩, ⟨_, ho⟩, hby⟩ ⟨by rfl, by rfl, by rfl, by rfl, by rfl, trivial⟩ (by omega) (by omega)
