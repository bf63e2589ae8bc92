/-! calls of methods with plain ends (written by wip/tools/call.py) -/
theorem g_callS_e {T : s_T} {Φ : s_P} {pc : Nat} {lv : s_V} {st : List Value} {h : s_H} {n kc ks : Nat} {T' : s_T} {as rest : List Value} {idx na : Nat} {r : Option Value} {h1 : s_H} (M : s_Mt T' 0 0 as h n (s_re r h1 n)) (hd : decode T.2.1 pc = .ok (.invokestatic idx, 3)) (cm : s_cm T' na) (hh : T'.2.2.2.2.1 = []) (hl : Cond.methodLink T.1.cls idx T'.1 ∈ s_WL) (hs : Cond.static T'.1 ∈ s_WL) (hdep : T'.2.2.2.2.2 + 1 ≤ T.2.2.2.2.2) (hst : st = as.reverse ++ rest) (hna : as.length = na) (hc : (rest.map fun v => v.category).sum ≤ 8)
    (kk : s_G T Φ (pc + 3) lv (r.toList ++ rest) h1 n kc ks) : s_G T Φ pc lv st h n kc ks := by
  refine g_callS M hd cm hh hl hs hdep hst hna hc (Nat.zero_le _) (Nat.zero_le _) s_re.same (fun v h' q => ?_) (fun E h' q => absurd q.1 (by intro z; cases z))
  obtain ⟨q1, q2, -⟩ := q
  cases q1
  rw [q2]
  exact kk
theorem g_callS_p {T : s_T} {Φ : s_P} {pc : Nat} {lv : s_V} {st : List Value} {h : s_H} {n kc ks : Nat} {T' : s_T} {as rest : List Value} {idx na : Nat} {P : Option Value → s_H → Prop} (M : s_Mt T' 0 0 as h n (s_rp n P s_no)) (hd : decode T.2.1 pc = .ok (.invokestatic idx, 3)) (cm : s_cm T' na) (hh : T'.2.2.2.2.1 = []) (hl : Cond.methodLink T.1.cls idx T'.1 ∈ s_WL) (hs : Cond.static T'.1 ∈ s_WL) (hdep : T'.2.2.2.2.2 + 1 ≤ T.2.2.2.2.2) (hst : st = as.reverse ++ rest) (hna : as.length = na) (hc : (rest.map fun v => v.category).sum ≤ 8)
    (kk : ∀ v h', P v h' → s_G T Φ (pc + 3) lv (v.toList ++ rest) h' n kc ks) : s_G T Φ pc lv st h n kc ks := by
  refine g_callS M hd cm hh hl hs hdep hst hna hc (Nat.zero_le _) (Nat.zero_le _) s_rp.same (fun v h' q => ?_) (fun E h' q => absurd q.2 id)
  exact kk v h' q.2

theorem g_callV_e {T : s_T} {Φ : s_P} {pc : Nat} {lv : s_V} {st : List Value} {h : s_H} {n kc ks : Nat} {T' : s_T} {as rest : List Value} {b : Nat} {idx na : Nat} {r : Option Value} {h1 : s_H} (M : s_Mt T' 0 0 (.ref b :: as) h n (s_re r h1 n)) (hd : decode T.2.1 pc = .ok (.invokevirtual idx, 3)) (cm : s_cm T' na) (hh : T'.2.2.2.2.1 = []) (hl : Cond.methodLink T.1.cls idx T'.1 ∈ s_WL) (hi : Cond.instanceMethod T'.1 ∈ s_WL) (hse : Cond.selects T'.1.cls T'.1 T'.1 ∈ s_WL) (hdep : T'.2.2.2.2.2 + 1 ≤ T.2.2.2.2.2) {ci : Nat} {q9 : vw_C} {fs : List Value} (hb : b < n) (hob : h b = .inr (ci, fs)) (hci : vwCl[ci]? = some q9) (hq9 : q9.1 = T'.1.cls) (hst : st = as.reverse ++ .ref b :: rest) (hna : as.length = na) (hc : (rest.map fun v => v.category).sum ≤ 8)
    (kk : s_G T Φ (pc + 3) lv (r.toList ++ rest) h1 n kc ks) : s_G T Φ pc lv st h n kc ks := by
  refine g_callV M hd cm hh hl hi hse hdep hb hob hci hq9 hst hna hc (Nat.zero_le _) (Nat.zero_le _) s_re.same (fun v h' q => ?_) (fun E h' q => absurd q.1 (by intro z; cases z))
  obtain ⟨q1, q2, -⟩ := q
  cases q1
  rw [q2]
  exact kk
theorem g_callV_p {T : s_T} {Φ : s_P} {pc : Nat} {lv : s_V} {st : List Value} {h : s_H} {n kc ks : Nat} {T' : s_T} {as rest : List Value} {b : Nat} {idx na : Nat} {P : Option Value → s_H → Prop} (M : s_Mt T' 0 0 (.ref b :: as) h n (s_rp n P s_no)) (hd : decode T.2.1 pc = .ok (.invokevirtual idx, 3)) (cm : s_cm T' na) (hh : T'.2.2.2.2.1 = []) (hl : Cond.methodLink T.1.cls idx T'.1 ∈ s_WL) (hi : Cond.instanceMethod T'.1 ∈ s_WL) (hse : Cond.selects T'.1.cls T'.1 T'.1 ∈ s_WL) (hdep : T'.2.2.2.2.2 + 1 ≤ T.2.2.2.2.2) {ci : Nat} {q9 : vw_C} {fs : List Value} (hb : b < n) (hob : h b = .inr (ci, fs)) (hci : vwCl[ci]? = some q9) (hq9 : q9.1 = T'.1.cls) (hst : st = as.reverse ++ .ref b :: rest) (hna : as.length = na) (hc : (rest.map fun v => v.category).sum ≤ 8)
    (kk : ∀ v h', P v h' → s_G T Φ (pc + 3) lv (v.toList ++ rest) h' n kc ks) : s_G T Φ pc lv st h n kc ks := by
  refine g_callV M hd cm hh hl hi hse hdep hb hob hci hq9 hst hna hc (Nat.zero_le _) (Nat.zero_le _) s_rp.same (fun v h' q => ?_) (fun E h' q => absurd q.2 id)
  exact kk v h' q.2

theorem g_callSN_e {T : s_T} {Φ : s_P} {pc : Nat} {lv : s_V} {st : List Value} {h : s_H} {n kc ks : Nat} {T' : s_T} {as rest : List Value} {idx na : Nat} {r : Option Value} {h1 : s_H} (M : s_Mt T' 0 0 as h n (s_re r h1 n)) (hd : decode T.2.1 pc = .ok (.invokestatic idx, 3)) (cm : s_cm T' na) (hh : T'.2.2.2.2.1 = []) (hl : Cond.methodLinkNest T.1.cls idx T'.1 "BackupPlanner" ∈ s_NW) (hs : Cond.static T'.1 ∈ s_WL) (hdep : T'.2.2.2.2.2 + 1 ≤ T.2.2.2.2.2) (hst : st = as.reverse ++ rest) (hna : as.length = na) (hc : (rest.map fun v => v.category).sum ≤ 8)
    (kk : s_G T Φ (pc + 3) lv (r.toList ++ rest) h1 n kc ks) : s_G T Φ pc lv st h n kc ks := by
  refine g_callSN M hd cm hh hl hs hdep hst hna hc (Nat.zero_le _) (Nat.zero_le _) s_re.same (fun v h' q => ?_) (fun E h' q => absurd q.1 (by intro z; cases z))
  obtain ⟨q1, q2, -⟩ := q
  cases q1
  rw [q2]
  exact kk
theorem g_callSN_p {T : s_T} {Φ : s_P} {pc : Nat} {lv : s_V} {st : List Value} {h : s_H} {n kc ks : Nat} {T' : s_T} {as rest : List Value} {idx na : Nat} {P : Option Value → s_H → Prop} (M : s_Mt T' 0 0 as h n (s_rp n P s_no)) (hd : decode T.2.1 pc = .ok (.invokestatic idx, 3)) (cm : s_cm T' na) (hh : T'.2.2.2.2.1 = []) (hl : Cond.methodLinkNest T.1.cls idx T'.1 "BackupPlanner" ∈ s_NW) (hs : Cond.static T'.1 ∈ s_WL) (hdep : T'.2.2.2.2.2 + 1 ≤ T.2.2.2.2.2) (hst : st = as.reverse ++ rest) (hna : as.length = na) (hc : (rest.map fun v => v.category).sum ≤ 8)
    (kk : ∀ v h', P v h' → s_G T Φ (pc + 3) lv (v.toList ++ rest) h' n kc ks) : s_G T Φ pc lv st h n kc ks := by
  refine g_callSN M hd cm hh hl hs hdep hst hna hc (Nat.zero_le _) (Nat.zero_le _) s_rp.same (fun v h' q => ?_) (fun E h' q => absurd q.2 id)
  exact kk v h' q.2

theorem g_callVN_e {T : s_T} {Φ : s_P} {pc : Nat} {lv : s_V} {st : List Value} {h : s_H} {n kc ks : Nat} {T' : s_T} {as rest : List Value} {b : Nat} {idx na : Nat} {r : Option Value} {h1 : s_H} (M : s_Mt T' 0 0 (.ref b :: as) h n (s_re r h1 n)) (hd : decode T.2.1 pc = .ok (.invokevirtual idx, 3)) (cm : s_cm T' na) (hh : T'.2.2.2.2.1 = []) (hl : Cond.methodLinkNest T.1.cls idx T'.1 "BackupPlanner" ∈ s_NW) (hi : Cond.instanceMethod T'.1 ∈ s_WL) (hse : Cond.selects T'.1.cls T'.1 T'.1 ∈ s_WL) (hdep : T'.2.2.2.2.2 + 1 ≤ T.2.2.2.2.2) {ci : Nat} {q9 : vw_C} {fs : List Value} (hb : b < n) (hob : h b = .inr (ci, fs)) (hci : vwCl[ci]? = some q9) (hq9 : q9.1 = T'.1.cls) (hst : st = as.reverse ++ .ref b :: rest) (hna : as.length = na) (hc : (rest.map fun v => v.category).sum ≤ 8)
    (kk : s_G T Φ (pc + 3) lv (r.toList ++ rest) h1 n kc ks) : s_G T Φ pc lv st h n kc ks := by
  refine g_callVN M hd cm hh hl hi hse hdep hb hob hci hq9 hst hna hc (Nat.zero_le _) (Nat.zero_le _) s_re.same (fun v h' q => ?_) (fun E h' q => absurd q.1 (by intro z; cases z))
  obtain ⟨q1, q2, -⟩ := q
  cases q1
  rw [q2]
  exact kk
theorem g_callVN_p {T : s_T} {Φ : s_P} {pc : Nat} {lv : s_V} {st : List Value} {h : s_H} {n kc ks : Nat} {T' : s_T} {as rest : List Value} {b : Nat} {idx na : Nat} {P : Option Value → s_H → Prop} (M : s_Mt T' 0 0 (.ref b :: as) h n (s_rp n P s_no)) (hd : decode T.2.1 pc = .ok (.invokevirtual idx, 3)) (cm : s_cm T' na) (hh : T'.2.2.2.2.1 = []) (hl : Cond.methodLinkNest T.1.cls idx T'.1 "BackupPlanner" ∈ s_NW) (hi : Cond.instanceMethod T'.1 ∈ s_WL) (hse : Cond.selects T'.1.cls T'.1 T'.1 ∈ s_WL) (hdep : T'.2.2.2.2.2 + 1 ≤ T.2.2.2.2.2) {ci : Nat} {q9 : vw_C} {fs : List Value} (hb : b < n) (hob : h b = .inr (ci, fs)) (hci : vwCl[ci]? = some q9) (hq9 : q9.1 = T'.1.cls) (hst : st = as.reverse ++ .ref b :: rest) (hna : as.length = na) (hc : (rest.map fun v => v.category).sum ≤ 8)
    (kk : ∀ v h', P v h' → s_G T Φ (pc + 3) lv (v.toList ++ rest) h' n kc ks) : s_G T Φ pc lv st h n kc ks := by
  refine g_callVN M hd cm hh hl hi hse hdep hb hob hci hq9 hst hna hc (Nat.zero_le _) (Nat.zero_le _) s_rp.same (fun v h' q => ?_) (fun E h' q => absurd q.2 id)
  exact kk v h' q.2
