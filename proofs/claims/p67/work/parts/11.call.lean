/-! rows of calls (written by wip/tools/call.py) -/
/-- what a callee may change is what the caller may -/
theorem s_free {T : s_T} {Φ : s_P} {lv : s_V} {h : s_H} {n kc ks : Nat} {p : Program} {l : Launch} {e : Env} {R : Room} {s : State} {m : MethodId} {args : Array Value} {below : List Frame} {meth : Method} {c : Code} {X : va_G × (Nat → ClassId)} {ad0 : Nat → Nat} {n0 : Nat} {A : Nat → Prop} {mc ms : Nat} {Qm : State → Prop} {ad : Nat → Nat} {H : Heap} {locs : List Loc} {cells slots : Nat} {ls : Array Slot}
    (C : s_C T Φ p l e R s m args below meth c X ad0 n0 A mc ms Qm) (S : s_S T.2.2.1 s X ad0 n0 A mc ms lv h n kc ks ad H locs cells slots ls) : ∀ q, va_A (s_ws X.2 ad n h) H.size q → A q := by
  intro q hq
  rcases hq with ⟨k, e9, hk⟩ | hq
  · exact S.2.2.2.2.1.2 k (q, e9) hk
  · exact C.2.2.2.2.2.2.2.2.2.1 q (Nat.le_trans S.2.2.2.2.2.1.1 hq)

/-- a callee's start -/
theorem s_pre {T : s_T} {Φ : s_P} {lv : s_V} {h : s_H} {n kc ks : Nat} {p : Program} {l : Launch} {e : Env} {R : Room} {s : State} {m : MethodId} {args : Array Value} {below : List Frame} {meth : Method} {c : Code} {X : va_G × (Nat → ClassId)} {ad0 : Nat → Nat} {n0 : Nat} {A : Nat → Prop} {mc ms : Nat} {Qm : State → Prop} {ad : Nat → Nat} {H : Heap} {locs : List Loc} {cells slots : Nat} {ls : Array Slot}
    (C : s_C T Φ p l e R s m args below meth c X ad0 n0 A mc ms Qm) (S : s_S T.2.2.1 s X ad0 n0 A mc ms lv h n kc ks ad H locs cells slots ls) (as : List Value) : PreS s H (va_Pc (as.map (s_rv ad)) (fun U => U.heap.size = H.size ∧ s_PC X ad n h U)) (as.map (s_rv ad)) := by
  refine ⟨fun a U g mk hq => ?_, fun U hU hW => ⟨rfl, by rw [hU], ?_⟩⟩
  · obtain ⟨e1, hsz, h9, hP, hK, hD, hST, hSQ⟩ := hq
    exact ⟨e1, hsz, h9, hP, va_K.moved (u := U) (U := U.calling g mk a) (Vm.Alike.refl U.vm) hK, hD, s_ST.same (s := U) (U := U.calling g mk a) rfl hST, hSQ.to (U := U.calling g mk a) (Vm.Alike.refl _) (fun _ _ _ => rfl) (fun _ q => q)⟩
  · have hSP := (C.2.2.2.2.2.2.2.2.2.2.2.1).ag (S.2.2.1.big S.2.1)
    refine ⟨S.2.1, by rw [hU]; exact S.2.2.2.1, va_K.moved hW.alike C.2.2.2.2.2.2.2.2.2.2.1, S.2.2.2.2.1.weaken (fun _ _ _ _ => trivial), hSP.1.warm hW, ?_⟩
    rw [hU]
    exact hSP.2.to hW.alike S.2.2.2.2.2.1.2.1 (s_free C S)
theorem s_good {ws : List Cond} (h : ∀ w ∈ ws, w ∈ s_WL) : GoodIn s_WL ws := fun w hw => ⟨h w hw, good_of_word (s_WL_good (h w hw))⟩
/-- the general row of a call of a method that makes no object that stays -/
theorem g_call {T : s_T} {Φ : s_P} {pc : Nat} {lv : s_V} {st : List Value} {h : s_H} {n kc ks : Nat} {rest : List Value} {Ψ : s_P} {mc' ms' : Nat} (hmc : mc' ≤ kc) (hms : ms' ≤ ks) (hsame : ∀ o h' n', Ψ o h' n' → n' = n)
    (hrun : ∀ (p : Program) (l : Launch) (e : Env) (R : Room) (s : State) (m : MethodId) (args : Array Value) (below : List Frame) (meth : Method) (c : Code) (X : va_G × (Nat → ClassId)) (ad0 : Nat → Nat) (n0 : Nat) (A : Nat → Prop) (mc ms : Nat) (Qm : State → Prop), s_C T Φ p l e R s m args below meth c X ad0 n0 A mc ms Qm → ∀ (ad : Nat → Nat) (H : Heap) (locs : List Loc) (cells slots : Nat) (ls : Array Slot), s_S T.2.2.1 s X ad0 n0 A mc ms lv h n kc ks ad H locs cells slots ls →
      ∃ a, vx_Run p l e R s m args below meth c H locs cells slots mc' ms' (F0 m pc ls (st.map (s_rv ad))) (rest.map (s_rv ad)) (s_Q X ad n h Ψ a) (s_XQ X ad n h Ψ) (va_A (s_ws X.2 ad n h) H.size))
    (kk : ∀ v h', Ψ (.inl v) h' n → s_G T Φ (pc + 3) lv (v.toList ++ rest) h' n (kc - mc') (ks - ms'))
    (kx : ∀ E h', Ψ (.inr E) h' n → s_GX T Φ pc lv E h' n (kc - mc') (ks - ms')) : s_G T Φ pc lv st h n kc ks := by
  intro p l e R s m args below meth c X ad0 n0 A mc ms Qm C ad H locs cells slots ls S
  obtain ⟨a, hr⟩ := hrun p l e R s m args below meth c X ad0 n0 A mc ms Qm C ad H locs cells slots ls S
  intro Tm hT Xs
  have hfr := s_free C S
  obtain ⟨hn0, hn9, hag, hP0, hD0, hS0, hc0, hs0, hL0⟩ := S
  rcases hr Tm hT Xs with ⟨v, st₀, t, T', L, q0, X', hL, e1, e2, ⟨⟨v', h', n', ad', hv, hΨ, hn, hn9', hag', hP, hD⟩, hF⟩, go⟩ | ⟨q, st₀, t, T', L, E, ce, q0, X', hL, e1, e2, ⟨⟨h', n', ad', hΨ, hn, hn9', hag', hP, hD⟩, hF⟩, hce, hcv, hcl, st'⟩
  · cases hsame _ _ _ hΨ
    have ea := hag'.same
    subst ea
    cases hv
    have hk := vx_keep (A0 := A) (H0 := s.heap) q0 e1 hS0 (A1 := va_A (s_ws X.2 ad' n h) st₀.heap.size) (by rw [q0]; exact fun q _ z => hfr q z) hfr hL hF
    have hD1 : va_D A (s_ws X.2 ad' n h') := hD.weaken (fun k q _ z => hfr q.1 (by rw [q0] at z; exact z))
    obtain ⟨t2, a2, b2⟩ := kk v' h' hΨ p l e R s m args below meth c X ad0 n0 A mc ms Qm C ad' T'.heap (locs ++ L) (cells + mc') (slots + ms') ls ⟨hn0, hn9, hag, by rw [e1]; exact hP, hD1, hk.2.2, by omega, by omega, hL0⟩ T' rfl X'
    refine ⟨t2, go t2 ?_, b2⟩
    have e3 : (v'.toList ++ rest).map (s_rv ad') = (v'.map (s_rv ad')).toList ++ rest.map (s_rv ad') := by cases v' <;> simp
    rw [e3] at a2
    exact a2
  · cases hsame _ _ _ hΨ
    have ea := hag'.same
    subst ea
    have hk := vx_keep (A0 := A) (H0 := s.heap) q0 e1 hS0 (A1 := va_A (s_ws X.2 ad' n h) st₀.heap.size) (by rw [q0]; exact fun q _ z => hfr q z) hfr hL hF
    have hD1 : va_D A (s_ws X.2 ad' n h') := hD.weaken (fun k q _ z => hfr q.1 (by rw [q0] at z; exact z))
    obtain ⟨t2, a2, b2⟩ := kx E h' hΨ p l e R s m args below meth c X ad0 n0 A mc ms Qm C (rest.map (s_rv ad')) q ce ad' T'.heap (locs ++ L) (cells + mc') (slots + ms') ls ⟨hn0, hn9, hag, by rw [e1]; exact hP, hD1, hk.2.2, by omega, by omega, hL0⟩ (by rw [e1]; exact hce) hcv hcl T' rfl X'
    exact ⟨t2, st'.trans a2, b2⟩
/-- how a method y is reached: its link, its code, its kind -/
def s_cm (T' : s_T) (na : Nat) : Prop := s_hd T' ∈ s_WL ∧ (T'.1.cls ≠ "java/lang/invoke/MethodHandle" ∧ T'.1.cls ≠ "java/lang/invoke/VarHandle" ∧ (parseMethodDescriptor T'.1.desc).map (fun d => d.parameters.length) = some na) ∧ T'.2.2.1 ≤ 45 ∧ Cond.initialized T'.1.cls ∈ s_WL
theorem s_hd_of {T' : s_T} (hh : T'.2.2.2.2.1 = []) : s_hd T' = .code T'.1 T'.2.1 T'.2.2.1 T'.2.2.2.1 := by simp only [s_hd, hh]
theorem s_in2 {T' : s_T} (h : s_hd T' ∈ s_WL) : ∀ w ∈ s_hd T' :: s_WL, w ∈ s_WL := fun w hw => (List.mem_cons.mp hw).elim (fun q => by rw [q]; exact h) id
theorem s_room {T T' : s_T} {R : Room} {mc ms mc' ms' : Nat} (h : T.2.2.2.2.2 + 8 ≤ R.frames ∧ 64 * T.2.2.2.2.2 + 200 ≤ R.locals ∧ mc ≤ R.cells ∧ ms ≤ R.slots) (hd : T'.2.2.2.2.2 + 1 ≤ T.2.2.2.2.2) (hn : T'.2.2.1 ≤ 45) :
    (s_rm T'.2.2.2.2.2 mc' ms').frames + 1 ≤ R.frames ∧ 8 + (T'.2.2.1 + 11) + (s_rm T'.2.2.2.2.2 mc' ms').locals ≤ R.locals := by
  simp only [s_rm]
  omega
theorem s_cats {st : List Value} {ad : Nat → Nat} (h : (st.map fun v => v.category).sum ≤ 8) : ((st.map (s_rv ad)).map fun v => v.category).sum ≤ 8 := by
  rw [List.map_map, show ((fun v : Value => v.category) ∘ s_rv ad) = fun v => v.category from funext (s_cat ad)]
  exact h
theorem s_inS {T' : s_T} {own : String} {idx na : Nat} (cm : s_cm T' na) (hl : Cond.methodLink own idx T'.1 ∈ s_WL) (hs : Cond.static T'.1 ∈ s_WL) : ∀ w ∈ va_wsS own idx T'.1 (s_hd T' :: s_WL), w ∈ s_WL := by
  intro w hw
  unfold va_wsS at hw
  rcases List.mem_append.mp hw with h | h
  · simp only [List.mem_cons, List.not_mem_nil, or_false] at h
    rcases h with rfl | rfl | rfl
    · exact hl
    · exact hs
    · exact cm.2.2.2
  · exact s_in2 cm.1 w h
theorem s_inV {T' : s_T} {own : String} {idx na : Nat} (cm : s_cm T' na) (hl : Cond.methodLink own idx T'.1 ∈ s_WL) (hi : Cond.instanceMethod T'.1 ∈ s_WL) (hse : Cond.selects T'.1.cls T'.1 T'.1 ∈ s_WL) : ∀ w ∈ wsV own idx T'.1.cls T'.1 (s_hd T' :: s_WL), w ∈ s_WL := by
  intro w hw
  unfold wsV at hw
  rcases List.mem_append.mp hw with h | h
  · simp only [List.mem_cons, List.not_mem_nil, or_false] at h
    rcases h with rfl | rfl | rfl | rfl
    · exact hl
    · exact hi
    · exact hse
    · exact cm.2.2.2
  · exact s_in2 cm.1 w h
theorem g_callS {T : s_T} {Φ : s_P} {pc : Nat} {lv : s_V} {st : List Value} {h : s_H} {n kc ks : Nat} {T' : s_T} {as rest : List Value} {Ψ : s_P} {mc' ms' idx na : Nat} (M : s_Mt T' mc' ms' as h n Ψ) (hd : decode T.2.1 pc = .ok (.invokestatic idx, 3)) (cm : s_cm T' na) (hh : T'.2.2.2.2.1 = []) (hl : Cond.methodLink T.1.cls idx T'.1 ∈ s_WL) (hs : Cond.static T'.1 ∈ s_WL) (hdep : T'.2.2.2.2.2 + 1 ≤ T.2.2.2.2.2) (hst : st = as.reverse ++ rest) (hna : as.length = na) (hc : (rest.map fun v => v.category).sum ≤ 8) (hmc : mc' ≤ kc) (hms : ms' ≤ ks) (hsame : ∀ o h' n', Ψ o h' n' → n' = n)
    (kk : ∀ v h', Ψ (.inl v) h' n → s_G T Φ (pc + 3) lv (v.toList ++ rest) h' n (kc - mc') (ks - ms'))
    (kx : ∀ E h', Ψ (.inr E) h' n → s_GX T Φ pc lv E h' n (kc - mc') (ks - ms')) : s_G T Φ pc lv st h n kc ks := by
  refine g_call (rest := rest) hmc hms hsame ?_ kk kx
  intro p l e R s m args below meth c X ad0 n0 A mc ms Qm C ad H locs cells slots ls S
  have hM := M l C.2.2.2.2.2.2.2.2.1 X ad H.size
  have hR := s_room (mc' := mc') (ms' := ms') C.2.2.2.2.2.2.2.2.2.2.2.2.2.1 hdep cm.2.2.1
  exact ⟨_, vx_runS ⟨C.1, C.2.1, C.2.2.1, C.2.2.2.2.1, C.2.2.2.2.2.1⟩ hM (va_cwS (bytes := T'.2.1) (maxL := T'.2.2.1) (ret := T'.2.2.2.1) (ws' := s_WL) na C.2.2.2.2.2.1 (s_good (s_inS cm hl hs)) (by rw [s_hd_of hh]) rfl rfl cm.2.1 hR) (s_pre C S as) rfl (by rw [List.length_map]; exact hna) S.2.2.2.2.2.2.2.2.1 (by rw [hst]; simp) (lv_room (s_cats hc)) hd ⟨Nat.le_trans (Nat.add_le_add_left hmc _) (Nat.le_trans S.2.2.2.2.2.2.1 C.2.2.2.2.2.2.2.2.2.2.2.2.2.1.2.2.1), Nat.le_trans (Nat.add_le_add_left hms _) (Nat.le_trans S.2.2.2.2.2.2.2.1 C.2.2.2.2.2.2.2.2.2.2.2.2.2.1.2.2.2)⟩⟩

theorem g_callV {T : s_T} {Φ : s_P} {pc : Nat} {lv : s_V} {st : List Value} {h : s_H} {n kc ks : Nat} {T' : s_T} {as rest : List Value} {b : Nat} {Ψ : s_P} {mc' ms' idx na : Nat} (M : s_Mt T' mc' ms' (.ref b :: as) h n Ψ) (hd : decode T.2.1 pc = .ok (.invokevirtual idx, 3)) (cm : s_cm T' na) (hh : T'.2.2.2.2.1 = []) (hl : Cond.methodLink T.1.cls idx T'.1 ∈ s_WL) (hi : Cond.instanceMethod T'.1 ∈ s_WL) (hse : Cond.selects T'.1.cls T'.1 T'.1 ∈ s_WL) (hdep : T'.2.2.2.2.2 + 1 ≤ T.2.2.2.2.2) {ci : Nat} {q9 : vw_C} {fs : List Value} (hb : b < n) (hob : h b = .inr (ci, fs)) (hci : vwCl[ci]? = some q9) (hq9 : q9.1 = T'.1.cls) (hst : st = as.reverse ++ .ref b :: rest) (hna : as.length = na) (hc : (rest.map fun v => v.category).sum ≤ 8) (hmc : mc' ≤ kc) (hms : ms' ≤ ks) (hsame : ∀ o h' n', Ψ o h' n' → n' = n)
    (kk : ∀ v h', Ψ (.inl v) h' n → s_G T Φ (pc + 3) lv (v.toList ++ rest) h' n (kc - mc') (ks - ms'))
    (kx : ∀ E h', Ψ (.inr E) h' n → s_GX T Φ pc lv E h' n (kc - mc') (ks - ms')) : s_G T Φ pc lv st h n kc ks := by
  refine g_call (rest := rest) hmc hms hsame ?_ kk kx
  intro p l e R s m args below meth c X ad0 n0 A mc ms Qm C ad H locs cells slots ls S
  have hM := M l C.2.2.2.2.2.2.2.2.1 X ad H.size
  have hR := s_room (mc' := mc') (ms' := ms') C.2.2.2.2.2.2.2.2.2.2.2.2.2.1 hdep cm.2.2.1
  have hat := s_ws_at (dA := X.2) (ad := ad) (h := h) hb
  rw [hob] at hat
  have hrc := va_recv (fs := fs.map (s_rv ad)) C.2.2.2.2.2.2.2.2.2.2.1 S.2.2.2.1 hci hat
  rw [hq9] at hrc
  have hpv : PreV s H T'.1.cls (ad b) (va_Pc ((.ref b :: as).map (s_rv ad)) (fun U => U.heap.size = H.size ∧ s_PC X ad n h U)) (as.map (s_rv ad)) := ⟨(s_pre C S (.ref b :: as)).1, hrc, (s_pre C S (.ref b :: as)).2⟩
  exact ⟨_, vx_runV ⟨C.1, C.2.1, C.2.2.1, C.2.2.2.2.1, C.2.2.2.2.2.1⟩ hM (cwV (bytes := T'.2.1) (maxL := T'.2.2.1) (ret := T'.2.2.2.1) (ws' := s_WL) na C.2.2.2.2.2.1 (s_good (s_inV cm hl hi hse)) (by rw [s_hd_of hh]) rfl rfl ⟨rfl, cm.2.1⟩ hR) hpv rfl (by rw [List.length_map]; exact hna) S.2.2.2.2.2.2.2.2.1 (by rw [hst]; simp [s_rv]) (lv_room (s_cats hc)) hd ⟨Nat.le_trans (Nat.add_le_add_left hmc _) (Nat.le_trans S.2.2.2.2.2.2.1 C.2.2.2.2.2.2.2.2.2.2.2.2.2.1.2.2.1), Nat.le_trans (Nat.add_le_add_left hms _) (Nat.le_trans S.2.2.2.2.2.2.2.1 C.2.2.2.2.2.2.2.2.2.2.2.2.2.1.2.2.2)⟩⟩

theorem g_callI {T : s_T} {Φ : s_P} {pc : Nat} {lv : s_V} {st : List Value} {h : s_H} {n kc ks : Nat} {T' : s_T} {as rest : List Value} {b : Nat} {Ψ : s_P} {mc' ms' idx na : Nat} (M : s_Mt T' mc' ms' (.ref b :: as) h n Ψ) (hd : decode T.2.1 pc = .ok (.invokespecial idx, 3)) (cm : s_cm T' na) (hh : T'.2.2.2.2.1 = []) (hl : Cond.methodLink T.1.cls idx T'.1 ∈ s_WL) (hi : Cond.instanceMethod T'.1 ∈ s_WL) (hin : T'.1.name = "<init>") (hre : T'.2.2.2.1 = none) (hdep : T'.2.2.2.2.2 + 1 ≤ T.2.2.2.2.2) (hst : st = as.reverse ++ .ref b :: rest) (hna : as.length = na) (hc : (rest.map fun v => v.category).sum ≤ 8) (hmc : mc' ≤ kc) (hms : ms' ≤ ks) (hsame : ∀ o h' n', Ψ o h' n' → n' = n)
    (kk : ∀ v h', Ψ (.inl v) h' n → s_G T Φ (pc + 3) lv (v.toList ++ rest) h' n (kc - mc') (ks - ms'))
    (kx : ∀ E h', Ψ (.inr E) h' n → s_GX T Φ pc lv E h' n (kc - mc') (ks - ms')) : s_G T Φ pc lv st h n kc ks := by
  refine g_call (rest := rest) hmc hms hsame ?_ kk kx
  intro p l e R s m args below meth c X ad0 n0 A mc ms Qm C ad H locs cells slots ls S
  have hM := M l C.2.2.2.2.2.2.2.2.1 X ad H.size
  have hR := s_room (mc' := mc') (ms' := ms') C.2.2.2.2.2.2.2.2.2.2.2.2.2.1 hdep cm.2.2.1
  exact ⟨_, vx_runI ⟨C.1, C.2.1, C.2.2.1, C.2.2.2.2.1, C.2.2.2.2.2.1⟩ hM (cwI (bytes := T'.2.1) (maxL := T'.2.2.1) (ws' := s_WL) na C.2.2.2.2.2.1 (s_good (s_in2 cm.1)) (by rw [s_hd_of hh, hre]) rfl rfl (C.2.2.2.2.2.1 _ cm.2.2.2) (C.2.2.2.2.2.1 _ hl) (C.2.2.2.2.2.1 _ hi) hin cm.2.1 hR) (s_pre C S (.ref b :: as)) rfl (by rw [List.length_map]; exact hna) S.2.2.2.2.2.2.2.2.1 (by rw [hst]; simp [s_rv]) (lv_room (s_cats hc)) hd ⟨Nat.le_trans (Nat.add_le_add_left hmc _) (Nat.le_trans S.2.2.2.2.2.2.1 C.2.2.2.2.2.2.2.2.2.2.2.2.2.1.2.2.1), Nat.le_trans (Nat.add_le_add_left hms _) (Nat.le_trans S.2.2.2.2.2.2.2.1 C.2.2.2.2.2.2.2.2.2.2.2.2.2.1.2.2.2)⟩⟩

theorem g_callSN {T : s_T} {Φ : s_P} {pc : Nat} {lv : s_V} {st : List Value} {h : s_H} {n kc ks : Nat} {T' : s_T} {as rest : List Value} {Ψ : s_P} {mc' ms' idx na : Nat} (M : s_Mt T' mc' ms' as h n Ψ) (hd : decode T.2.1 pc = .ok (.invokestatic idx, 3)) (cm : s_cm T' na) (hh : T'.2.2.2.2.1 = []) (hl : Cond.methodLinkNest T.1.cls idx T'.1 "BackupPlanner" ∈ s_NW) (hs : Cond.static T'.1 ∈ s_WL) (hdep : T'.2.2.2.2.2 + 1 ≤ T.2.2.2.2.2) (hst : st = as.reverse ++ rest) (hna : as.length = na) (hc : (rest.map fun v => v.category).sum ≤ 8) (hmc : mc' ≤ kc) (hms : ms' ≤ ks) (hsame : ∀ o h' n', Ψ o h' n' → n' = n)
    (kk : ∀ v h', Ψ (.inl v) h' n → s_G T Φ (pc + 3) lv (v.toList ++ rest) h' n (kc - mc') (ks - ms'))
    (kx : ∀ E h', Ψ (.inr E) h' n → s_GX T Φ pc lv E h' n (kc - mc') (ks - ms')) : s_G T Φ pc lv st h n kc ks := by
  refine g_call (rest := rest) hmc hms hsame ?_ kk kx
  intro p l e R s m args below meth c X ad0 n0 A mc ms Qm C ad H locs cells slots ls S
  have hM := M l C.2.2.2.2.2.2.2.2.1 X ad H.size
  have hR := s_room (mc' := mc') (ms' := ms') C.2.2.2.2.2.2.2.2.2.2.2.2.2.1 hdep cm.2.2.1
  exact ⟨_, vx_runSN ⟨C.1, C.2.1, C.2.2.1, C.2.2.2.2.1, C.2.2.2.2.2.1⟩ hM ⟨va_cnB (bytes := T'.2.1) (maxL := T'.2.2.1) (ret := T'.2.2.2.1) (ws' := s_WL) na C.2.2.2.2.2.1 (s_good (s_in2 cm.1)) (by rw [s_hd_of hh]) rfl rfl (C.2.2.2.2.2.2.2.2.2.2.2.1.1.1 _ hl) (C.2.2.2.2.2.1 _ cm.2.2.2) cm.2.1 hR, C.2.2.2.2.2.1 _ hs, trivial⟩ (s_pre C S as) rfl (by rw [List.length_map]; exact hna) S.2.2.2.2.2.2.2.2.1 (by rw [hst]; simp) (lv_room (s_cats hc)) hd ⟨Nat.le_trans (Nat.add_le_add_left hmc _) (Nat.le_trans S.2.2.2.2.2.2.1 C.2.2.2.2.2.2.2.2.2.2.2.2.2.1.2.2.1), Nat.le_trans (Nat.add_le_add_left hms _) (Nat.le_trans S.2.2.2.2.2.2.2.1 C.2.2.2.2.2.2.2.2.2.2.2.2.2.1.2.2.2)⟩⟩

theorem g_callVN {T : s_T} {Φ : s_P} {pc : Nat} {lv : s_V} {st : List Value} {h : s_H} {n kc ks : Nat} {T' : s_T} {as rest : List Value} {b : Nat} {Ψ : s_P} {mc' ms' idx na : Nat} (M : s_Mt T' mc' ms' (.ref b :: as) h n Ψ) (hd : decode T.2.1 pc = .ok (.invokevirtual idx, 3)) (cm : s_cm T' na) (hh : T'.2.2.2.2.1 = []) (hl : Cond.methodLinkNest T.1.cls idx T'.1 "BackupPlanner" ∈ s_NW) (hi : Cond.instanceMethod T'.1 ∈ s_WL) (hse : Cond.selects T'.1.cls T'.1 T'.1 ∈ s_WL) (hdep : T'.2.2.2.2.2 + 1 ≤ T.2.2.2.2.2) {ci : Nat} {q9 : vw_C} {fs : List Value} (hb : b < n) (hob : h b = .inr (ci, fs)) (hci : vwCl[ci]? = some q9) (hq9 : q9.1 = T'.1.cls) (hst : st = as.reverse ++ .ref b :: rest) (hna : as.length = na) (hc : (rest.map fun v => v.category).sum ≤ 8) (hmc : mc' ≤ kc) (hms : ms' ≤ ks) (hsame : ∀ o h' n', Ψ o h' n' → n' = n)
    (kk : ∀ v h', Ψ (.inl v) h' n → s_G T Φ (pc + 3) lv (v.toList ++ rest) h' n (kc - mc') (ks - ms'))
    (kx : ∀ E h', Ψ (.inr E) h' n → s_GX T Φ pc lv E h' n (kc - mc') (ks - ms')) : s_G T Φ pc lv st h n kc ks := by
  refine g_call (rest := rest) hmc hms hsame ?_ kk kx
  intro p l e R s m args below meth c X ad0 n0 A mc ms Qm C ad H locs cells slots ls S
  have hM := M l C.2.2.2.2.2.2.2.2.1 X ad H.size
  have hR := s_room (mc' := mc') (ms' := ms') C.2.2.2.2.2.2.2.2.2.2.2.2.2.1 hdep cm.2.2.1
  have hat := s_ws_at (dA := X.2) (ad := ad) (h := h) hb
  rw [hob] at hat
  have hrc := va_recv (fs := fs.map (s_rv ad)) C.2.2.2.2.2.2.2.2.2.2.1 S.2.2.2.1 hci hat
  rw [hq9] at hrc
  have hpv : PreV s H T'.1.cls (ad b) (va_Pc ((.ref b :: as).map (s_rv ad)) (fun U => U.heap.size = H.size ∧ s_PC X ad n h U)) (as.map (s_rv ad)) := ⟨(s_pre C S (.ref b :: as)).1, hrc, (s_pre C S (.ref b :: as)).2⟩
  exact ⟨_, vx_runVN ⟨C.1, C.2.1, C.2.2.1, C.2.2.2.2.1, C.2.2.2.2.2.1⟩ hM ⟨va_cnB (bytes := T'.2.1) (maxL := T'.2.2.1) (ret := T'.2.2.2.1) (ws' := s_WL) na C.2.2.2.2.2.1 (s_good (s_in2 cm.1)) (by rw [s_hd_of hh]) rfl rfl (C.2.2.2.2.2.2.2.2.2.2.2.1.1.1 _ hl) (C.2.2.2.2.2.1 _ cm.2.2.2) cm.2.1 hR, C.2.2.2.2.2.1 _ hi, C.2.2.2.2.2.1 _ hse⟩ hpv rfl (by rw [List.length_map]; exact hna) S.2.2.2.2.2.2.2.2.1 (by rw [hst]; simp [s_rv]) (lv_room (s_cats hc)) hd ⟨Nat.le_trans (Nat.add_le_add_left hmc _) (Nat.le_trans S.2.2.2.2.2.2.1 C.2.2.2.2.2.2.2.2.2.2.2.2.2.1.2.2.1), Nat.le_trans (Nat.add_le_add_left hms _) (Nat.le_trans S.2.2.2.2.2.2.2.1 C.2.2.2.2.2.2.2.2.2.2.2.2.2.1.2.2.2)⟩⟩

theorem g_callIN {T : s_T} {Φ : s_P} {pc : Nat} {lv : s_V} {st : List Value} {h : s_H} {n kc ks : Nat} {T' : s_T} {as rest : List Value} {b : Nat} {Ψ : s_P} {mc' ms' idx na : Nat} (M : s_Mt T' mc' ms' (.ref b :: as) h n Ψ) (hd : decode T.2.1 pc = .ok (.invokespecial idx, 3)) (cm : s_cm T' na) (hh : T'.2.2.2.2.1 = []) (hl : Cond.methodLinkNest T.1.cls idx T'.1 "BackupPlanner" ∈ s_NW) (hi : Cond.instanceMethod T'.1 ∈ s_WL) (hin : T'.1.name = "<init>") (hre : T'.2.2.2.1 = none) (hdep : T'.2.2.2.2.2 + 1 ≤ T.2.2.2.2.2) (hst : st = as.reverse ++ .ref b :: rest) (hna : as.length = na) (hc : (rest.map fun v => v.category).sum ≤ 8) (hmc : mc' ≤ kc) (hms : ms' ≤ ks) (hsame : ∀ o h' n', Ψ o h' n' → n' = n)
    (kk : ∀ v h', Ψ (.inl v) h' n → s_G T Φ (pc + 3) lv (v.toList ++ rest) h' n (kc - mc') (ks - ms'))
    (kx : ∀ E h', Ψ (.inr E) h' n → s_GX T Φ pc lv E h' n (kc - mc') (ks - ms')) : s_G T Φ pc lv st h n kc ks := by
  refine g_call (rest := rest) hmc hms hsame ?_ kk kx
  intro p l e R s m args below meth c X ad0 n0 A mc ms Qm C ad H locs cells slots ls S
  have hM := M l C.2.2.2.2.2.2.2.2.1 X ad H.size
  have hR := s_room (mc' := mc') (ms' := ms') C.2.2.2.2.2.2.2.2.2.2.2.2.2.1 hdep cm.2.2.1
  exact ⟨_, vx_runIN ⟨C.1, C.2.1, C.2.2.1, C.2.2.2.2.1, C.2.2.2.2.2.1⟩ hM ⟨va_cnB (bytes := T'.2.1) (maxL := T'.2.2.1) (ret := none) (ws' := s_WL) na C.2.2.2.2.2.1 (s_good (s_in2 cm.1)) (by rw [s_hd_of hh, hre]) rfl rfl (C.2.2.2.2.2.2.2.2.2.2.2.1.1.1 _ hl) (C.2.2.2.2.2.1 _ cm.2.2.2) cm.2.1 hR, hin, C.2.2.2.2.2.1 _ hi⟩ (s_pre C S (.ref b :: as)) rfl (by rw [List.length_map]; exact hna) S.2.2.2.2.2.2.2.2.1 (by rw [hst]; simp [s_rv]) (lv_room (s_cats hc)) hd ⟨Nat.le_trans (Nat.add_le_add_left hmc _) (Nat.le_trans S.2.2.2.2.2.2.1 C.2.2.2.2.2.2.2.2.2.2.2.2.2.1.2.2.1), Nat.le_trans (Nat.add_le_add_left hms _) (Nat.le_trans S.2.2.2.2.2.2.2.1 C.2.2.2.2.2.2.2.2.2.2.2.2.2.1.2.2.2)⟩⟩
