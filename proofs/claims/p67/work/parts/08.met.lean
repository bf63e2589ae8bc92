section SM
variable {T : s_T} {Φ : s_P} {p : Program} {l : Launch} {e : Env} {R : Room} {s : State} {m : MethodId} {args : Array Value} {below : List Frame} {meth : Method} {c : Code} {X : va_G × (Nat → ClassId)} {ad0 : Nat → Nat} {n0 : Nat} {h0 : s_H} {mc ms : Nat}
theorem s_Er_of (hx : p.tables.exec = Jvm.exec) (hb : c.code = T.2.1) (hr : meth.sig.returnType = T.2.2.2.1) (hlocks : meth.locks = false) :
    s_Er T Φ p l e R s m args below meth c X ad0 n0 (va_A (s_ws X.2 ad0 n0 h0) s.heap.size) mc ms (vx_MQ below (s_Q X ad0 n0 h0 Φ) (s_XQ X ad0 n0 h0 Φ) args s mc ms (va_A (s_ws X.2 ad0 n0 h0) s.heap.size)) := by
  intro v h n pc ad H locs cells slots ls hrt hq S
  obtain ⟨hn, hn9, hag, hP, hD, hS, hc, hs, hL⟩ := S
  refine vx_ret (W.widen (k := mc) (n := ms) hc hs ?_)
  have hQ : ∀ t : State, t.heap = H → s_Q X ad0 n0 h0 Φ args s (.returned (v.map (s_rv ad))) t := fun t ht => ⟨⟨v, h, n, ad, rfl, hq, hn, hn9, hag, by rw [ht]; exact hP, hD⟩, hS.F ht⟩
  have hf := hS.2.2
  cases v with
  | none => exact W.vret hx hb (hr.trans hrt.2) (fun t ht _ => hQ t ht) hf hrt.1 hlocks
  | some v =>
    cases v with
    | int x =>
      obtain ⟨hd, ty, hty, hnar⟩ := hrt
      exact W.zret hx hb (hr.trans hty) hnar (fun t ht _ => hQ t ht) hf hd hlocks
    | long x => exact W.lret hx hb (hr.trans hrt.2) (fun t ht _ => hQ t ht) hf hrt.1 hlocks
    | float x => exact W.fret hx hb (hr.trans hrt.2) (fun t ht _ => hQ t ht) hf hrt.1 hlocks
    | double x => exact W.dret hx hb (hr.trans hrt.2) (fun t ht _ => hQ t ht) hf hrt.1 hlocks
    | null =>
      obtain ⟨hd, rt, hty, hrt⟩ := hrt
      exact W.aret hx hb (hr.trans hty) hrt (Or.inl rfl) (fun t ht _ => hQ t ht) hf hd hlocks
    | ref a =>
      obtain ⟨hd, rt, hty, hrt⟩ := hrt
      exact W.aret hx hb (hr.trans hty) hrt (Or.inr ⟨_, rfl⟩) (fun t ht _ => hQ t ht) hf hd hlocks
    | retAddr a => exact absurd hrt id
theorem s_Et_of (htab : c.exceptionTable.toList = tableOf T.2.2.2.2.1) (hlocks : meth.locks = false) :
    s_Et T Φ p l e R s m args below meth c X ad0 n0 (va_A (s_ws X.2 ad0 n0 h0) s.heap.size) mc ms (vx_MQ below (s_Q X ad0 n0 h0 Φ) (s_XQ X ad0 n0 h0 Φ) args s mc ms (va_A (s_ws X.2 ad0 n0 h0) s.heap.size)) := by
  intro E h n pc rest q ce ad H locs cells slots ls hh hq S h1 h2 h3
  obtain ⟨hn, hn9, hag, hP, hD, hS, hc, hs, hL⟩ := S
  rw [hh] at htab
  exact vx_out (fun x hx => by rw [htab] at hx; cases hx) hlocks h1 h2 h3 (fun t ht _ => ⟨⟨h, n, ad, hq, hn, hn9, hag, by rw [ht]; exact hP, hD⟩, hS.F ht⟩) hS.2.2 hc hs
end SM
/-- a contract out of the walk of the body -/
theorem s_Mt_of {T : s_T} {mc ms : Nat} {as : List Value} {h : s_H} {n : Nat} {Φ : s_P} (hh : T.2.2.2.2.1 = []) (hpl : plainName T.1.cls = true) (hl : (lg_sl as).length ≤ T.2.2.1) (k : s_G T Φ 0 (s_ent as) [] h n mc ms) : s_Mt T mc ms as h n Φ := by
  intro l htr X ad sz
  refine vx_ofW (cc := T.2.1) (maxL := T.2.2.1) (ret := T.2.2.2.1) (ws' := s_WL) hpl (by simp only [s_hd, hh]) ?_
  intro p e s m args below meth c s₁ B hml htb hv
  obtain ⟨rfl, hsz, hn9, hP, hK, hD, hSP⟩ := hv
  subst hsz
  have hts := atoms_spec (ws := s_hd T :: s_WL) B.pre
  have htab : c.exceptionTable.toList = tableOf T.2.2.2.2.1 := by
    rw [hh]
    exact List.eq_nil_iff_forall_not_mem.mpr (fun x hx => htb x hx)
  rw [lg_entry_eq]
  exact k p l e _ s m _ below meth c X ad n (va_A (s_ws X.2 ad n h) s.heap.size) mc ms _
    ⟨B.exec, B.bytes, hml, B.returns, findClass_of_methodNamed B.named, fun w hw => hts w (List.mem_cons_of_mem _ hw), htab, B.notSynchronized, htr, fun q hq => Or.inr hq, hK, hSP, (name_of_methodNamed B.named B.method).1, ⟨Nat.le_refl _, Nat.le_refl _, Nat.le_refl _, Nat.le_refl _⟩, s_Er_of B.exec B.bytes B.returns B.notSynchronized, s_Et_of htab B.notSynchronized⟩
    ad s.heap [] 0 0 _ ⟨Nat.le_refl _, hn9, s_ag.rf, hP, hD.self, va_S.rf, by rw [Nat.zero_add]; exact Nat.le_refl _, by rw [Nat.zero_add]; exact Nat.le_refl _, s_ent_L hl⟩
/-- .. of a method with handlers -/
theorem s_Mt_ofH {T : s_T} {mc ms : Nat} {as : List Value} {h : s_H} {n : Nat} {Φ : s_P} {x : Nat × Nat × Nat × Nat} {xs : List (Nat × Nat × Nat × Nat)} (hh : T.2.2.2.2.1 = x :: xs) (hpl : plainName T.1.cls = true) (hl : (lg_sl as).length ≤ T.2.2.1) (k : s_G T Φ 0 (s_ent as) [] h n mc ms) : s_Mt T mc ms as h n Φ := by
  intro l htr X ad sz
  have hhd : s_hd T = Cond.codeWith T.1 T.2.1 T.2.2.1 T.2.2.2.1 (x :: xs) := by simp only [s_hd, hh]
  refine vx_ofWH (cc := T.2.1) (maxL := T.2.2.1) (ret := T.2.2.2.1) (hh := x :: xs) (ws' := s_WL) hpl (by rw [hhd]) ?_
  intro p e s m args below meth c s₁ B hml hv
  obtain ⟨rfl, hsz, hn9, hP, hK, hD, hSP⟩ := hv
  subst hsz
  have hts := atoms_spec (ws := s_hd T :: s_WL) B.pre
  have htab : c.exceptionTable.toList = tableOf T.2.2.2.2.1 := by
    rw [hh]
    exact vx_table (x := T.1) B (hhd ▸ hts _ List.mem_cons_self)
  rw [lg_entry_eq]
  exact k p l e _ s m _ below meth c X ad n (va_A (s_ws X.2 ad n h) s.heap.size) mc ms _
    ⟨B.exec, B.bytes, hml, B.returns, findClass_of_methodNamed B.named, fun w hw => hts w (List.mem_cons_of_mem _ hw), htab, B.notSynchronized, htr, fun q hq => Or.inr hq, hK, hSP, (name_of_methodNamed B.named B.method).1, ⟨Nat.le_refl _, Nat.le_refl _, Nat.le_refl _, Nat.le_refl _⟩, s_Er_of B.exec B.bytes B.returns B.notSynchronized, s_Et_of htab B.notSynchronized⟩
    ad s.heap [] 0 0 _ ⟨Nat.le_refl _, hn9, s_ag.rf, hP, hD.self, va_S.rf, by rw [Nat.zero_add]; exact Nat.le_refl _, by rw [Nat.zero_add]; exact Nat.le_refl _, s_ent_L hl⟩
