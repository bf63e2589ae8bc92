/-! THE COMPONENT: all its objects -/
def s_sc (h : s_H) (s : Nat) (tx : Nat → Int32) (len : Nat) (ek eo nx tk ts ex : Int32) : Prop :=
  h s = .inr (4, [.ref (s + 1), .int (nI len), .int ek, .int eo, .int nx, .int tk, .int ts, .int ex]) ∧ h (s + 1) = .inl (2, 500, .inl tx)
theorem s_sc.off {h h1 : s_H} {s len a b : Nat} {tx : Nat → Int32} {ek eo nx tk ts ex : Int32} (q : s_sc h s tx len ek eo nx tk ts ex) (z : s_off h h1 a b) (hd : s + 2 ≤ a ∨ b ≤ s) : s_sc h1 s tx len ek eo nx tk ts ex :=
  ⟨(z _ (by omega)).trans q.1, (z _ (by omega)).trans q.2⟩
/-- disk, snapshot, whether one was saved, the kept disks, how many, the text, its length, the error's kind and offset, the report -/
abbrev s_Pl : Type := s_D × s_D × Int32 × (Nat → s_D) × Nat × (Nat → Int32) × Nat × Int32 × Int32 × List Int32
/-- the object itself -/
def s_po (h : s_H) (b : Nat) (sv : Int32) : Prop := h b = .inr (6, [.ref (b + 1), .ref (b + 6), .ref (b + 11), .int sv, .ref (b + 16), .ref (b + 68), .ref (b + 87), .ref (b + 89), .ref (b + 91)])
def s_t0 (h : s_H) (t : Nat) : Prop := ∃ τ : s_Tb, s_tab h t τ ∧ ∀ c, c ≤ 100 → τ.1 0 c = 0
def s_pl (h : s_H) (b : Nat) (π : s_Pl) : Prop :=
  s_po h b π.2.2.1 ∧ s_disk h (b + 1) π.1 ∧ s_disk h (b + 11) π.2.1 ∧ (∃ σ, s_disk h (b + 6) σ) ∧ (∃ pm, s_hist h (b + 16) pm π.2.2.2.1 π.2.2.2.2.1) ∧ s_t0 h (b + 68) ∧ (∃ o len, s_grd h (b + 87) o len ∧ len ≤ 14 ∧ ∀ q, q < len → o q < 14) ∧
  (∃ nx tk ts ex, s_sc h (b + 89) π.2.2.2.2.2.1 π.2.2.2.2.2.2.1 π.2.2.2.2.2.2.2.1 π.2.2.2.2.2.2.2.2.1 nx tk ts ex) ∧ s_rep h (b + 91) π.2.2.2.2.2.2.2.2.2
theorem s_t0.off {h h1 : s_H} {t a b : Nat} (q : s_t0 h t) (z : s_off h h1 a b) (hd : t + 19 ≤ a ∨ b ≤ t) : s_t0 h1 t := q.elim fun τ r => ⟨τ, r.1.off z hd, r.2⟩
/-- all of them but what lies from x up to y -/
theorem s_pl.mv {h h1 : s_H} {b x y : Nat} {π : s_Pl} (q : s_pl h b π) (z : s_off h h1 x y) :
    ((b < x ∨ y ≤ b) → s_po h1 b π.2.2.1) ∧ ((b + 6 ≤ x ∨ y ≤ b + 1) → s_disk h1 (b + 1) π.1) ∧ ((b + 16 ≤ x ∨ y ≤ b + 11) → s_disk h1 (b + 11) π.2.1) ∧ ((b + 11 ≤ x ∨ y ≤ b + 6) → ∃ σ, s_disk h1 (b + 6) σ) ∧ ((b + 68 ≤ x ∨ y ≤ b + 16) → ∃ pm, s_hist h1 (b + 16) pm π.2.2.2.1 π.2.2.2.2.1) ∧
    ((b + 87 ≤ x ∨ y ≤ b + 68) → s_t0 h1 (b + 68)) ∧ ((b + 89 ≤ x ∨ y ≤ b + 87) → ∃ o len, s_grd h1 (b + 87) o len ∧ len ≤ 14 ∧ ∀ q, q < len → o q < 14) ∧
    ((b + 91 ≤ x ∨ y ≤ b + 89) → ∃ nx tk ts ex, s_sc h1 (b + 89) π.2.2.2.2.2.1 π.2.2.2.2.2.2.1 π.2.2.2.2.2.2.2.1 π.2.2.2.2.2.2.2.2.1 nx tk ts ex) ∧ ((b + 93 ≤ x ∨ y ≤ b + 91) → s_rep h1 (b + 91) π.2.2.2.2.2.2.2.2.2) := by
  obtain ⟨q1, q2, q3, ⟨σ, q4⟩, ⟨pm, q5⟩, q6, ⟨o, len, q7, q7a⟩, ⟨nx, tk, ts, ex, q8⟩, q9⟩ := q
  exact ⟨fun d => (z _ d).trans q1, fun d => q2.off z d, fun d => q3.off z d, fun d => ⟨σ, q4.off z d⟩, fun d => ⟨pm, q5.off z d⟩, fun d => q6.off z d, fun d => ⟨o, len, q7.off z d, q7a⟩, fun d => ⟨nx, tk, ts, ex, q8.off z d⟩, fun d => q9.off z d⟩
theorem s_pl.disk {h h1 : s_H} {b : Nat} {π : s_Pl} {σ : s_D} (q : s_pl h b π) (z : s_off h h1 (b + 1) (b + 6)) (hd : s_disk h1 (b + 1) σ) : s_pl h1 b (σ, π.2) := by
  obtain ⟨q1, q2, q3, q4, q5, q6, q7, q8, q9⟩ := q.mv z
  exact ⟨q1 (by omega), hd, q3 (by omega), q4 (by omega), q5 (by omega), q6 (by omega), q7 (by omega), q8 (by omega), q9 (by omega)⟩
theorem s_pl.trial {h h1 : s_H} {b : Nat} {π : s_Pl} {σ : s_D} (q : s_pl h b π) (z : s_off h h1 (b + 6) (b + 11)) (hd : s_disk h1 (b + 6) σ) : s_pl h1 b π := by
  obtain ⟨q1, q2, q3, q4, q5, q6, q7, q8, q9⟩ := q.mv z
  exact ⟨q1 (by omega), q2 (by omega), q3 (by omega), ⟨σ, hd⟩, q5 (by omega), q6 (by omega), q7 (by omega), q8 (by omega), q9 (by omega)⟩
theorem s_pl.snap {h h1 : s_H} {b : Nat} {π : s_Pl} {σ : s_D} (q : s_pl h b π) (z : s_off h h1 (b + 11) (b + 16)) (hd : s_disk h1 (b + 11) σ) : s_pl h1 b (π.1, σ, π.2.2) := by
  obtain ⟨q1, q2, q3, q4, q5, q6, q7, q8, q9⟩ := q.mv z
  exact ⟨q1 (by omega), q2 (by omega), hd, q4 (by omega), q5 (by omega), q6 (by omega), q7 (by omega), q8 (by omega), q9 (by omega)⟩
theorem s_pl.saved {h h1 : s_H} {b : Nat} {π : s_Pl} {sv : Int32} (q : s_pl h b π) (z : s_off h h1 b (b + 1)) (hd : s_po h1 b sv) : s_pl h1 b (π.1, π.2.1, sv, π.2.2.2) := by
  obtain ⟨q1, q2, q3, q4, q5, q6, q7, q8, q9⟩ := q.mv z
  exact ⟨hd, q2 (by omega), q3 (by omega), q4 (by omega), q5 (by omega), q6 (by omega), q7 (by omega), q8 (by omega), q9 (by omega)⟩
theorem s_pl.hist {h h1 : s_H} {b len : Nat} {π : s_Pl} {pm : Nat → Nat} {D : Nat → s_D} (q : s_pl h b π) (z : s_off h h1 (b + 16) (b + 68)) (hd : s_hist h1 (b + 16) pm D len) : s_pl h1 b (π.1, π.2.1, π.2.2.1, D, len, π.2.2.2.2.2) := by
  obtain ⟨q1, q2, q3, q4, q5, q6, q7, q8, q9⟩ := q.mv z
  exact ⟨q1 (by omega), q2 (by omega), q3 (by omega), q4 (by omega), ⟨pm, hd⟩, q6 (by omega), q7 (by omega), q8 (by omega), q9 (by omega)⟩
theorem s_pl.tab {h h1 : s_H} {b : Nat} {π : s_Pl} (q : s_pl h b π) (z : s_off h h1 (b + 68) (b + 87)) (hd : s_t0 h1 (b + 68)) : s_pl h1 b π := by
  obtain ⟨q1, q2, q3, q4, q5, q6, q7, q8, q9⟩ := q.mv z
  exact ⟨q1 (by omega), q2 (by omega), q3 (by omega), q4 (by omega), q5 (by omega), hd, q7 (by omega), q8 (by omega), q9 (by omega)⟩
theorem s_pl.grd {h h1 : s_H} {b : Nat} {π : s_Pl} {o : Nat → Nat} {len : Nat} (q : s_pl h b π) (z : s_off h h1 (b + 87) (b + 89)) (hd : s_grd h1 (b + 87) o len) (h14 : len ≤ 14) (ho : ∀ q, q < len → o q < 14) : s_pl h1 b π := by
  obtain ⟨q1, q2, q3, q4, q5, q6, q7, q8, q9⟩ := q.mv z
  exact ⟨q1 (by omega), q2 (by omega), q3 (by omega), q4 (by omega), q5 (by omega), q6 (by omega), ⟨o, len, hd, h14, ho⟩, q8 (by omega), q9 (by omega)⟩
theorem s_pl.scr {h h1 : s_H} {b len : Nat} {π : s_Pl} {tx : Nat → Int32} {ek eo nx tk ts ex : Int32} (q : s_pl h b π) (z : s_off h h1 (b + 89) (b + 91)) (hd : s_sc h1 (b + 89) tx len ek eo nx tk ts ex) : s_pl h1 b (π.1, π.2.1, π.2.2.1, π.2.2.2.1, π.2.2.2.2.1, tx, len, ek, eo, π.2.2.2.2.2.2.2.2.2) := by
  obtain ⟨q1, q2, q3, q4, q5, q6, q7, q8, q9⟩ := q.mv z
  exact ⟨q1 (by omega), q2 (by omega), q3 (by omega), q4 (by omega), q5 (by omega), q6 (by omega), q7 (by omega), ⟨nx, tk, ts, ex, hd⟩, q9 (by omega)⟩
theorem s_pl.rep {h h1 : s_H} {b : Nat} {π : s_Pl} {L : List Int32} (q : s_pl h b π) (z : s_off h h1 (b + 91) (b + 93)) (hd : s_rep h1 (b + 91) L) : s_pl h1 b (π.1, π.2.1, π.2.2.1, π.2.2.2.1, π.2.2.2.2.1, π.2.2.2.2.2.1, π.2.2.2.2.2.2.1, π.2.2.2.2.2.2.2.1, π.2.2.2.2.2.2.2.2.1, L) := by
  obtain ⟨q1, q2, q3, q4, q5, q6, q7, q8, q9⟩ := q.mv z
  exact ⟨q1 (by omega), q2 (by omega), q3 (by omega), q4 (by omega), q5 (by omega), q6 (by omega), q7 (by omega), q8 (by omega), hd⟩
