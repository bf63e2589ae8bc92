/-! locals as a list; writes with a name for the new heap -/
def s_lvs (l : List (Nat × Value)) : s_V := fun i => (l.find? (fun q => q.1 == i)).map (fun q => q.2)
def s_all : List (Nat × Value) → s_V → Prop
  | [], _ => True
  | q :: l, lv => lv q.1 = some q.2 ∧ s_all l lv
theorem s_all_sub : ∀ (l : List (Nat × Value)) (lv : s_V), s_all l lv → ∀ i v, s_lvs l i = some v → lv i = some v
  | [], _, _, i, v, h => by cases h
  | q :: l, lv, ⟨h1, h2⟩, i, v, h => by
    unfold s_lvs at h
    rw [List.find?_cons] at h
    by_cases hq : q.1 = i
    · simp only [hq, beq_self_eq_true, Option.map_some] at h
      cases h
      rw [← hq]
      exact h1
    · have hb : (q.1 == i) = false := by simpa using hq
      simp only [hb] at h
      exact s_all_sub l lv h2 i v h
theorem g_lv {T : s_T} {Φ : s_P} {pc : Nat} {l : List (Nat × Value)} {lv : s_V} {st : List Value} {h : s_H} {n kc ks : Nat} (k : s_G T Φ pc (s_lvs l) st h n kc ks) (hs : s_all l lv) : s_G T Φ pc lv st h n kc ks := g_sub k (s_all_sub l lv hs) (Nat.le_refl _) (Nat.le_refl _)
theorem s_ent_lvs (as : List Value) : s_ent as = s_lvs (lv_args 0 as) := rfl
section PR
variable {T : s_T} {Φ : s_P} {pc : Nat} {lv : s_V} {st : List Value} {h : s_H} {n kc ks : Nat}
theorem g_putf' {a ci : Nat} {fs : List Value} {idx q0 : Nat} {v : Value} {t : FieldType} (hd : decode T.2.1 pc = .ok (.putfield idx, 3)) (hw : s_pw T.1.cls idx ci q0 t false) (ho : h a = .inr (ci, fs)) (ha : a < n) (hl : q0 < fs.length) (hn : narrow t v = v) (hf : fits t v = true)
    (k : ∀ h1, h1 = s_up h a (.inr (ci, fs.set q0 v)) → s_G T Φ (pc + 3) lv st h1 n kc ks) : s_G T Φ pc lv (v :: .ref a :: st) h n kc ks := g_putf hd hw ho ha hl hn hf (k _ rfl)
theorem g_iast' {a len j : Nat} {i x : Int32} {f : Nat → Int32} (hd : decode T.2.1 pc = .ok (.iastore, 1)) (ho : h a = .inl (0, len, .inl f)) (ha : a < n) (hi : i = nI j) (hj : j < len) (hl : len < 2147483648)
    (k : ∀ h1, h1 = s_up h a (.inl (0, len, .inl (upd f j x))) → s_G T Φ (pc + 1) lv st h1 n kc ks) : s_G T Φ pc lv (.int x :: .int i :: .ref a :: st) h n kc ks := g_iast hd ho ha hi hj hl (k _ rfl)
theorem g_bast' {a len j : Nat} {i x : Int32} {f : Nat → Int32} (hd : decode T.2.1 pc = .ok (.bastore, 1)) (ho : h a = .inl (2, len, .inl f)) (ha : a < n) (hi : i = nI j) (hj : j < len) (hl : len < 2147483648)
    (k : ∀ h1, h1 = s_up h a (.inl (2, len, .inl (upd f j x.toInt8.toInt32))) → s_G T Φ (pc + 1) lv st h1 n kc ks) : s_G T Φ pc lv (.int x :: .int i :: .ref a :: st) h n kc ks := g_bast hd ho ha hi hj hl (k _ rfl)
theorem g_last' {a len j : Nat} {i : Int32} {x : Int64} {f : Nat → Int64} (hd : decode T.2.1 pc = .ok (.lastore, 1)) (ho : h a = .inl (1, len, .inr (.inl f))) (ha : a < n) (hi : i = nI j) (hj : j < len) (hl : len < 2147483648)
    (k : ∀ h1, h1 = s_up h a (.inl (1, len, .inr (.inl (vp_updL f j x)))) → s_G T Φ (pc + 1) lv st h1 n kc ks) : s_G T Φ pc lv (.long x :: .int i :: .ref a :: st) h n kc ks := g_last hd ho ha hi hj hl (k _ rfl)
end PR
theorem s_up_at {h h1 : s_H} {i : Nat} {o : s_O} (e : h1 = s_up h i o) : h1 i = o := by rw [e]; exact s_up_same h i o
theorem s_up_off {h h1 : s_H} {i j : Nat} {o x : s_O} (e : h1 = s_up h i o) (hn : j ≠ i) (hx : h j = x) : h1 j = x := by rw [e, s_up_ne h o hn]; exact hx
/-- nI and written numbers -/
theorem nI_lit (k : Nat) : (OfNat.ofNat k : Int32) = nI k := rfl
theorem nI_inc (i : Nat) : nI i + Int32.ofInt 1 = nI (i + 1) := nI_1 i
theorem nI_dec (i : Nat) : nI (i + 1) + Int32.ofInt (-1) = nI i := pk_m1 i
