/-! the usual ends of methods, and the rows of their calls -/
/-- it returns r, the heap is h1 -/
def s_re (r : Option Value) (h1 : s_H) (n1 : Nat) : s_P := fun o h n => o = .inl r ∧ h = h1 ∧ n = n1
/-- it returns something that P says, or throws something that PX says; no object more -/
def s_rp (n1 : Nat) (P : Option Value → s_H → Prop) (PX : String → s_H → Prop) : s_P := fun o h n => n = n1 ∧ match o with
  | .inl r => P r h
  | .inr E => PX E h
abbrev s_no : String → s_H → Prop := fun _ _ => False
theorem s_re.same {r : Option Value} {h1 : s_H} {n : Nat} : ∀ o h' n', s_re r h1 n o h' n' → n' = n := fun _ _ _ q => q.2.2
theorem s_rp.same {n : Nat} {P : Option Value → s_H → Prop} {PX : String → s_H → Prop} : ∀ o h' n', s_rp n P PX o h' n' → n' = n := fun _ _ _ q => q.1
theorem g_ret_e {T : s_T} {pc : Nat} {lv : s_V} {h h1 : s_H} {n n1 kc ks : Nat} {r : Option Value} (v : Option Value) (hr : s_rt T v pc) (e1 : v = r) (e2 : h = h1) (e3 : n = n1) : s_G T (s_re r h1 n1) pc lv v.toList h n kc ks := g_ret v hr ⟨by rw [e1], e2, e3⟩
theorem g_ret_p {T : s_T} {pc : Nat} {lv : s_V} {h : s_H} {n kc ks : Nat} {P : Option Value → s_H → Prop} {PX : String → s_H → Prop} (v : Option Value) (hr : s_rt T v pc) (e1 : P v h) : s_G T (s_rp n P PX) pc lv v.toList h n kc ks := g_ret v hr ⟨rfl, e1⟩
/-- the returns, by their kinds -/
theorem g_ireturn {T : s_T} {Φ : s_P} {pc : Nat} {lv : s_V} {h : s_H} {n kc ks : Nat} {x : Int32} (hd : decode T.2.1 pc = .ok (.ireturn, 1)) (ht : T.2.2.2.1 = some .int) (hq : Φ (.inl (some (.int x))) h n) : s_G T Φ pc lv [.int x] h n kc ks := g_ret (some (.int x)) ⟨hd, .int, ht, rfl⟩ hq
theorem g_zreturn {T : s_T} {Φ : s_P} {pc : Nat} {lv : s_V} {h : s_H} {n kc ks : Nat} {x : Int32} (hd : decode T.2.1 pc = .ok (.ireturn, 1)) (ht : T.2.2.2.1 = some .boolean) (hx : x = 0 ∨ x = 1) (hq : Φ (.inl (some (.int x))) h n) : s_G T Φ pc lv [.int x] h n kc ks := g_ret (some (.int x)) ⟨hd, .boolean, ht, by rcases hx with rfl | rfl <;> rfl⟩ hq
theorem g_lreturn {T : s_T} {Φ : s_P} {pc : Nat} {lv : s_V} {h : s_H} {n kc ks : Nat} {x : Int64} (hd : decode T.2.1 pc = .ok (.lreturn, 1)) (ht : T.2.2.2.1 = some .long) (hq : Φ (.inl (some (.long x))) h n) : s_G T Φ pc lv [.long x] h n kc ks := g_ret (some (.long x)) ⟨hd, ht⟩ hq
theorem g_vreturn {T : s_T} {Φ : s_P} {pc : Nat} {lv : s_V} {h : s_H} {n kc ks : Nat} (hd : decode T.2.1 pc = .ok (.return_, 1)) (ht : T.2.2.2.1 = none) (hq : Φ (.inl none) h n) : s_G T Φ pc lv [] h n kc ks := g_ret none ⟨hd, ht⟩ hq
theorem g_freturn {T : s_T} {Φ : s_P} {pc : Nat} {lv : s_V} {h : s_H} {n kc ks : Nat} {x : UInt32} (hd : decode T.2.1 pc = .ok (.freturn, 1)) (ht : T.2.2.2.1 = some .float) (hq : Φ (.inl (some (.float x))) h n) : s_G T Φ pc lv [.float x] h n kc ks := g_ret (some (.float x)) ⟨hd, ht⟩ hq
theorem g_dreturn {T : s_T} {Φ : s_P} {pc : Nat} {lv : s_V} {h : s_H} {n kc ks : Nat} {x : UInt64} (hd : decode T.2.1 pc = .ok (.dreturn, 1)) (ht : T.2.2.2.1 = some .double) (hq : Φ (.inl (some (.double x))) h n) : s_G T Φ pc lv [.double x] h n kc ks := g_ret (some (.double x)) ⟨hd, ht⟩ hq
/-- a better post, a later end -/
theorem g_post {T : s_T} {Φ Ψ : s_P} {pc : Nat} {lv : s_V} {st : List Value} {h : s_H} {n kc ks : Nat} (k : s_G T Ψ pc lv st h n kc ks) (hi : ∀ o h n, Ψ o h n → Φ o h n) : s_G T Φ pc lv st h n kc ks := by
  intro p l e R s m args below meth c X ad0 n0 A mc ms Qm C ad H locs cells slots ls S
  obtain ⟨c1, c2, c3, c4, c5, c6, c7, c8, c9, c10, c11, c12, c13, c14, c15, c16⟩ := C
  exact k p l e R s m args below meth c X ad0 n0 A mc ms Qm ⟨c1, c2, c3, c4, c5, c6, c7, c8, c9, c10, c11, c12, c13, c14, fun v h n pc ad H locs cells slots ls q1 q2 q3 => c15 v h n pc ad H locs cells slots ls q1 (hi _ _ _ q2) q3, fun E h n pc rest q ce ad H locs cells slots ls q1 q2 q3 q4 q5 q6 => c16 E h n pc rest q ce ad H locs cells slots ls q1 (hi _ _ _ q2) q3 q4 q5 q6⟩ ad H locs cells slots ls S
theorem s_Q_mono {X : va_G × (Nat → ClassId)} {ad0 : Nat → Nat} {n0 : Nat} {h0 : s_H} {Φ Ψ : s_P} (hi : ∀ o h n, Ψ o h n → Φ o h n) {a : Array Value} {st : State} {o : Outcome} {t : State} (h : s_Q X ad0 n0 h0 Ψ a st o t) : s_Q X ad0 n0 h0 Φ a st o t := by
  obtain ⟨⟨v, h1, n1, ad, e, q, r⟩, f⟩ := h
  exact ⟨⟨v, h1, n1, ad, e, hi _ _ _ q, r⟩, f⟩
theorem s_XQ_mono {X : va_G × (Nat → ClassId)} {ad0 : Nat → Nat} {n0 : Nat} {h0 : s_H} {Φ Ψ : s_P} (hi : ∀ o h n, Ψ o h n → Φ o h n) {E : String} {st t : State} (h : s_XQ X ad0 n0 h0 Ψ E st t) : s_XQ X ad0 n0 h0 Φ E st t := by
  obtain ⟨⟨h1, n1, ad, q, r⟩, f⟩ := h
  exact ⟨⟨h1, n1, ad, hi _ _ _ q, r⟩, f⟩
