/-! the constants of the launch: texts, enum constants, static arrays -/
def s_len : List Nat := [4, 6, 4, 3, 7, 7, 6, 8, 6, 4, 5, 4, 5, 12]
def s_byt : List (List Int32) := [[100, 105, 115, 107], [114, 101, 112, 101, 97, 116], [105, 116, 101, 109], [112, 105, 110], [101, 120, 99, 108, 117, 100, 101], [114, 101, 108, 101, 97, 115, 101], [114, 101, 109, 111, 118, 101], [99, 97, 112, 97, 99, 105, 116, 121], [98, 97, 99, 107, 117, 112], [115, 105, 122, 101], [118, 97, 108, 117, 101], [107, 101, 101, 112], [100, 105, 115, 107, 32], [59, 32, 32, 32, 32, 32, 32, 32, 32, 32, 32, 32]]
def s_str : List (String × Nat × String × Nat) := [("BackupPlanner$Script", 40, "disk", 0), ("BackupPlanner$Script", 63, "repeat", 1), ("BackupPlannerLaw", 114, "disk ", 12), ("BackupPlannerLaw", 127, ";           ", 13)]
def s_thr : List (Nat × String) := [(129, "there is no plan"), (274, "a number is out of its range"), (279, "there is no such item"), (282, "there is no such cell")]
/-- what the constants of Command expect: first, second -/
def s_c1 : Nat → Int32 := fun i => [2, 1, 1, 1, 1, 4, 5, 1, 1, 0].getD i 0
def s_c2 : Nat → Int32 := fun i => [3, 0, 0, 0, 0, 0, 0, 2, 3, 0].getD i 0
abbrev s_eN : String := "BackupPlanner$Command"
/-- the facts that lie in the heap -/
def s_SE (ad : Nat → Nat) (A : Nat → Prop) (U : State) (H : Heap) : Prop :=
  va_Z "BackupPlanner" "COMMANDS" "[LBackupPlanner$Command;" (.ref (ad (s_big + 200))) A U H ∧
  va_T (.object s_eN) (ad (s_big + 200)) 10 (fun j => .ref (ad (s_big + 100 + j))) A U H ∧
  va_Z "BackupPlanner$1" "$SwitchMap$BackupPlanner$Command" "[I" (.ref (ad (s_big + 201))) A U H ∧
  va_T .int (ad (s_big + 201)) 10 (fun j => .int (nI (j + 1))) A U H ∧
  (∀ i, i < 10 → va_O s_eN (ad (s_big + 100 + i)) A U H ∧ va_OF s_eN "word" "Ljava/lang/String;" (.ref (ad (s_big + 2 + i))) (ad (s_big + 100 + i)) A U H ∧
    va_OF s_eN "first" "I" (.int (s_c1 i)) (ad (s_big + 100 + i)) A U H ∧ va_OF s_eN "second" "I" (.int (s_c2 i)) (ad (s_big + 100 + i)) A U H ∧
    va_OF "java/lang/Enum" "ordinal" "I" (.int (nI i)) (ad (s_big + 100 + i)) A U H)
/-- digits of numbers, and the script: L ints at the number s_big + 500 -/
def s_SD (ad : Nat → Nat) (A : Nat → Prop) (U : State) (H : Heap) : Prop :=
  va_Z "java/lang/Integer" "DigitOnes" "[B" (.ref (ad (s_big + 210))) A U H ∧ va_T .byte (ad (s_big + 210)) 100 (fun j => .int (nI (48 + j % 10))) A U H ∧
  va_Z "java/lang/Integer" "DigitTens" "[B" (.ref (ad (s_big + 211))) A U H ∧ va_T .byte (ad (s_big + 211)) 100 (fun j => .int (nI (48 + j / 10))) A U H ∧
  ∃ (L : Nat) (xs : Nat → Int32), L ≤ 260 ∧ va_T .int (ad (s_big + 500)) L (fun j => .int (xs j)) A U H
theorem s_SD.to {ad : Nat → Nat} {A B : Nat → Prop} {u U : State} {H H1 : Heap} (hvm : u.vm.Alike U.vm) (hq : ∀ a : Nat, a < H.size → ¬ A a → H1[a]? = H[a]?) (hAB : ∀ q, B q → A q) (h : s_SD ad A u H) : s_SD ad B U H1 := by
  obtain ⟨h1, h2, h3, h4, L, xs, hL, h5⟩ := h
  exact ⟨((h1.kept hq).moved hvm).narrow hAB, ((h2.kept hq).moved hvm).narrow hAB, ((h3.kept hq).moved hvm).narrow hAB, ((h4.kept hq).moved hvm).narrow hAB, L, xs, hL, ((h5.kept hq).moved hvm).narrow hAB⟩
theorem s_SD.ag {ad ad' : Nat → Nat} (ha : ∀ k, s_big ≤ k → ad' k = ad k) {A : Nat → Prop} {U : State} {H : Heap} (h : s_SD ad A U H) : s_SD ad' A U H := by
  have e : ∀ k : Nat, ad' (s_big + k) = ad (s_big + k) := fun k => ha _ (Nat.le_add_right _ _)
  unfold s_SD
  rw [e, e, e]
  exact h
def s_SQ (ad : Nat → Nat) (A : Nat → Prop) (U : State) (H : Heap) : Prop :=
  vx_Zq Bundle.tN "UNASSIGNED_STACK" Bundle.steD A U H ∧ vx_Zq Bundle.tN "SUPPRESSED_SENTINEL" Bundle.listD A U H ∧
  va_Z "java/lang/String" "COMPACT_STRINGS" "Z" (.int 1) A U H ∧ (∃ v : Value, (v = .null ∨ v = .ref (s_big + 400)) ∧ va_Z "jdk/internal/util/Preconditions" "SIOOBE_FORMATTER" "Ljava/util/function/BiFunction;" (s_rv ad v) A U H) ∧
  (vk_S 14 s_len s_byt (fun i => ad (s_big + i)) (fun i => ad (s_big + 300 + i)) A U H ∧ s_SD ad A U H) ∧ s_SE ad A U H
/-- .. and those of the tables -/
def s_ST (ad : Nat → Nat) (U : State) : Prop :=
  (∀ w ∈ s_NW, va_Nw w U) ∧ va_Nc "java/lang/IllegalArgumentException" "java/lang/IndexOutOfBoundsException" U ∧
  (∀ q ∈ s_thr, ∃ sa : Nat, vk_R "BackupPlanner" q.1 q.2 sa U) ∧ (∀ q ∈ s_str, vk_R q.1 q.2.1 q.2.2.1 (ad (s_big + q.2.2.2)) U)
def s_SP (ad : Nat → Nat) (A : Nat → Prop) (U : State) (H : Heap) : Prop := s_ST ad U ∧ s_SQ ad A U H
theorem s_SE.to {ad : Nat → Nat} {A B : Nat → Prop} {u U : State} {H H1 : Heap} (hvm : u.vm.Alike U.vm) (hq : ∀ a : Nat, a < H.size → ¬ A a → H1[a]? = H[a]?) (hAB : ∀ q, B q → A q) (h : s_SE ad A u H) : s_SE ad B U H1 := by
  obtain ⟨h1, h2, h3, h4, h5⟩ := h
  refine ⟨((h1.kept hq).moved hvm).narrow hAB, ((h2.kept hq).moved hvm).narrow hAB, ((h3.kept hq).moved hvm).narrow hAB, ((h4.kept hq).moved hvm).narrow hAB, fun i hi => ?_⟩
  obtain ⟨g1, g2, g3, g4, g5⟩ := h5 i hi
  exact ⟨((g1.kept hq).moved hvm).narrow hAB, ((g2.kept hq).moved hvm).narrow hAB, ((g3.kept hq).moved hvm).narrow hAB, ((g4.kept hq).moved hvm).narrow hAB, ((g5.kept hq).moved hvm).narrow hAB⟩
theorem s_SQ.to {ad : Nat → Nat} {A B : Nat → Prop} {u U : State} {H H1 : Heap} (hvm : u.vm.Alike U.vm) (hq : ∀ a : Nat, a < H.size → ¬ A a → H1[a]? = H[a]?) (hAB : ∀ q, B q → A q) (h : s_SQ ad A u H) : s_SQ ad B U H1 := by
  obtain ⟨h1, h2, h3, ⟨v, hv, h4⟩, ⟨h5, h7⟩, h6⟩ := h
  exact ⟨((h1.kept hq).moved hvm).narrow hAB, ((h2.kept hq).moved hvm).narrow hAB, ((h3.kept hq).moved hvm).narrow hAB, ⟨v, hv, ((h4.kept hq).moved hvm).narrow hAB⟩, ⟨((h5.kept hq).moved hvm).narrow hAB, h7.to hvm hq hAB⟩, h6.to hvm hq hAB⟩
theorem s_NW_ok : ∀ w ∈ s_NW, s_nw w = true := by decide +kernel
theorem s_ST.warm {ad : Nat → Nat} {s U : State} (hW : s.WarmedH U.vm) (h : s_ST ad s) : s_ST ad U := by
  obtain ⟨h1, h2, h3, h4⟩ := h
  exact ⟨fun w hw => s_nw_warm (s_NW_ok w hw) hW (h1 w hw), h2.moved hW.alike, fun q hq => (h3 q hq).elim (fun sa hs => ⟨sa, hs.warm hW⟩), fun q hq => (h4 q hq).warm hW⟩
theorem s_ST.same {ad : Nat → Nat} {s U : State} (hv : s.vm = U.vm) (h : s_ST ad s) : s_ST ad U := by
  obtain ⟨h1, h2, h3, h4⟩ := h
  exact ⟨fun w hw => s_nw_same (s_NW_ok w hw) hv (h1 w hw), h2.moved (by rw [hv]; exact Vm.Alike.refl _), fun q hq => (h3 q hq).elim (fun sa hs => ⟨sa, hs.same hv.symm⟩), fun q hq => (h4 q hq).same hv.symm⟩
theorem s_SE.ag {ad ad' : Nat → Nat} (ha : ∀ k, s_big ≤ k → ad' k = ad k) {A : Nat → Prop} {U : State} {H : Heap} (h : s_SE ad A U H) : s_SE ad' A U H := by
  obtain ⟨h1, h2, h3, h4, h5⟩ := h
  have e : ∀ k : Nat, ad' (s_big + k) = ad (s_big + k) := fun k => ha _ (Nat.le_add_right _ _)
  have e2 : ∀ j k : Nat, ad' (s_big + j + k) = ad (s_big + j + k) := fun j k => by rw [Nat.add_assoc]; exact e _
  refine ⟨by rw [e]; exact h1, ?_, by rw [e]; exact h3, by rw [e]; exact h4, fun i hi => ?_⟩
  · rw [e]
    have : (fun j => Value.ref (ad' (s_big + 100 + j))) = fun j => Value.ref (ad (s_big + 100 + j)) := funext fun j => by rw [e2]
    rw [this]
    exact h2
  · rw [e2, e2]
    exact h5 i hi
theorem s_SP.ag {ad ad' : Nat → Nat} (ha : ∀ k, s_big ≤ k → ad' k = ad k) {A : Nat → Prop} {U : State} {H : Heap} (h : s_SP ad A U H) : s_SP ad' A U H := by
  obtain ⟨⟨h1, h2, h3, h4⟩, g1, g2, g3, ⟨v, hv, g4⟩, ⟨g5, g7⟩, g6⟩ := h
  have e : ∀ k : Nat, ad' (s_big + k) = ad (s_big + k) := fun k => ha _ (Nat.le_add_right _ _)
  have e2 : ∀ j k : Nat, ad' (s_big + j + k) = ad (s_big + j + k) := fun j k => by rw [Nat.add_assoc]; exact e _
  refine ⟨⟨h1, h2, h3, fun q hq => by rw [e]; exact h4 q hq⟩, g1, g2, g3, ⟨v, hv, ?_⟩, ⟨?_, g7.ag ha⟩, g6.ag ha⟩
  · have ev : s_rv ad' v = s_rv ad v := by
      rcases hv with rfl | rfl
      · rfl
      · exact congrArg Value.ref (e 400)
    rw [ev]
    exact g4
  · have e3 : (fun i => ad' (s_big + i)) = fun i => ad (s_big + i) := funext e
    have e4 : (fun i => ad' (s_big + 300 + i)) = fun i => ad (s_big + 300 + i) := funext (e2 300)
    rw [e3, e4]
    exact g5
