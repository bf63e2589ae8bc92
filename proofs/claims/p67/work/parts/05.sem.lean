/-! THE SEMANTIC LAYER. A heap of objects by numbers (s_H), whose addresses are some function ad; a judgement s_G over
    (pc, locals, stack, heap) that hides the machine; contracts s_Mt of methods. -/
abbrev s_O : Type := (Nat × vp_A) ⊕ (Nat × List Value)
abbrev s_H : Type := Nat → s_O
/-- numbers from here on are constants: texts, enum constants, static arrays -/
def s_big : Nat := 1000000
def s_rv (ad : Nat → Nat) : Value → Value
  | .ref k => .ref (ad k)
  | .int x => .int x
  | .long x => .long x
  | .float x => .float x
  | .double x => .double x
  | .null => .null
  | .retAddr x => .retAddr x
def s_ra (ad : Nat → Nat) : vp_A → vp_A
  | (k, .inr (.inr (.inr (.inr f)))) => (k, .inr (.inr (.inr (.inr (fun j => (f j).map ad)))))
  | (k, .inl f) => (k, .inl f)
  | (k, .inr (.inl f)) => (k, .inr (.inl f))
  | (k, .inr (.inr (.inl f))) => (k, .inr (.inr (.inl f)))
  | (k, .inr (.inr (.inr (.inl f)))) => (k, .inr (.inr (.inr (.inl f))))
def s_oe (dA : Nat → ClassId) (ad : Nat → Nat) : s_O → va_E
  | .inl (k, a) => .inl (dA k, s_ra ad a)
  | .inr (ci, fs) => .inr (ci, fs.map (s_rv ad))
def s_up (h : s_H) (i : Nat) (o : s_O) : s_H := fun j => if j = i then o else h j
theorem s_up_same (h : s_H) (i : Nat) (o : s_O) : s_up h i o i = o := if_pos rfl
theorem s_up_ne (h : s_H) {i j : Nat} (o : s_O) (hn : j ≠ i) : s_up h i o j = h j := if_neg hn
def s_ws (dA : Nat → ClassId) (ad : Nat → Nat) (n : Nat) (h : s_H) : va_W := (List.range n).map (fun i => (ad i, s_oe dA ad (h i)))
theorem s_ws_at {dA : Nat → ClassId} {ad : Nat → Nat} {n : Nat} {h : s_H} {i : Nat} (hi : i < n) : (s_ws dA ad n h)[i]? = some (ad i, s_oe dA ad (h i)) := by
  simp [s_ws, hi]
theorem s_ws_inv {dA : Nat → ClassId} {ad : Nat → Nat} {n : Nat} {h : s_H} {k : Nat} {q : Nat × va_E} (hq : (s_ws dA ad n h)[k]? = some q) : k < n ∧ q = (ad k, s_oe dA ad (h k)) := by
  by_cases hk : k < n
  · rw [s_ws_at hk] at hq
    exact ⟨hk, (Option.some.inj hq).symm⟩
  · simp [s_ws, hk] at hq
theorem s_ws_set {dA : Nat → ClassId} {ad : Nat → Nat} {n : Nat} {h : s_H} {i : Nat} (o : s_O) (hi : i < n) : (s_ws dA ad n h).set i (ad i, s_oe dA ad o) = s_ws dA ad n (s_up h i o) := by
  apply List.ext_getElem?
  intro k
  rw [List.getElem?_set]
  by_cases hk : i = k
  · subst hk
    rw [s_ws_at (h := s_up h i o) hi, s_up_same]
    simp [s_ws, hi]
  · by_cases hn : k < n
    · rw [s_ws_at (h := s_up h i o) hn, s_up_ne h o (Ne.symm hk)]
      simp [s_ws, hn, hk]
    · simp [s_ws, hn, hk]
theorem s_cat (ad : Nat → Nat) (v : Value) : (s_rv ad v).category = v.category := by cases v <;> rfl
theorem s_rf (ad : Nat → Nat) (r : Option Nat) : s_rv ad (va_rf r) = va_rf (r.map ad) := by cases r <;> rfl
/-- only the numbers from n up to n' have got another address -/
def s_ag (n n' : Nat) (ad ad' : Nat → Nat) : Prop := ∀ k : Nat, (k < n ∨ n' ≤ k) → ad' k = ad k
theorem s_ag.rf {n : Nat} {ad : Nat → Nat} : s_ag n n ad ad := fun _ _ => rfl
theorem s_ag.trans {n n' n'' : Nat} {a b c : Nat → Nat} (h1 : s_ag n n' a b) (hn : n ≤ n') (hn' : n' ≤ n'') (h2 : s_ag n' n'' b c) : s_ag n n'' a c := fun k hk => (h2 k (hk.elim (fun q => Or.inl (Nat.lt_of_lt_of_le q hn)) Or.inr)).trans (h1 k (hk.elim Or.inl (fun q => Or.inr (Nat.le_trans hn' q))))
theorem s_ag.same {n : Nat} {a b : Nat → Nat} (h : s_ag n n a b) : b = a := funext fun k => h k (Nat.lt_or_ge k n)
theorem s_ag.big {n n' : Nat} {a b : Nat → Nat} (h : s_ag n n' a b) (hn : n' ≤ s_big) : ∀ k, s_big ≤ k → b k = a k := fun k hk => h k (Or.inr (Nat.le_trans hn hk))
/-- the classes of the arrays: int, long, byte, Disk, long[], int[] -/
def s_tys (dA : Nat → ClassId) : List (ClassId × FieldType) := [(dA 0, .int), (dA 1, .long), (dA 2, .byte), (dA 3, .object "BackupPlanner$Disk"), (dA 4, .array .long)]
/-! the words: all good ones of the tables -/
/-- which method a private call on a text builder selects (out of the words of the tables: 99.last) -/
def s_pv : List Cond := [.selects RJ4 yJ5_ensureCapacityInternal_d00df yJ5_ensureCapacityInternal_d00df, .selects RJ4 yJ5_newCapacity_0f7a4 yJ5_newCapacity_0f7a4, .selects RJ4 yJ5_putStringAt_47b60 yJ5_putStringAt_47b60, .selects RJ4 yJ5_inflateIfNeededFor_a7421 yJ5_inflateIfNeededFor_a7421]
def s_WL : List Cond := (s_pv ++ lw_tbl).filter goodWord
theorem s_WL_of {w : Cond} (i : Nat) (h : lw_tbl[i]? = some w) (hg : goodWord w = true) : w ∈ s_WL := List.mem_filter.mpr ⟨List.mem_append_right _ (List.mem_of_getElem? h), hg⟩
theorem s_WL_pv {w : Cond} (i : Nat) (h : s_pv[i]? = some w) (hg : goodWord w = true) : w ∈ s_WL := List.mem_filter.mpr ⟨List.mem_append_left _ (List.mem_of_getElem? h), hg⟩
theorem s_WL_in {w : Cond} (h : w ∈ s_WL) : w ∈ s_pv ++ lw_tbl := (List.mem_filter.mp h).1
theorem s_WL_good {w : Cond} (h : w ∈ s_WL) : goodWord w = true := (List.mem_filter.mp h).2
theorem s_WL_all (ws : List Cond) (ps : List Nat) (h : ws = ps.filterMap (fun i => lw_tbl[i]?)) (hg : ws.all goodWord = true) : ∀ w ∈ ws, w ∈ s_WL := by
  intro w hw
  have h1 := List.all_eq_true.mp hg w hw
  rw [h] at hw
  obtain ⟨i, -, hi⟩ := List.mem_filterMap.mp hw
  exact s_WL_of i hi h1
/-! what is fixed at the launch and no call changes -/
def s_NW : List Cond := [.methodLinkNest "BackupPlanner" 11 ⟨"BackupPlanner$Disk", "<init>", "()V"⟩ "BackupPlanner", .methodLinkNest "BackupPlanner$History" 21 ⟨"BackupPlanner$Disk", "<init>", "()V"⟩ "BackupPlanner",
  .methodLinkNest "BackupPlanner" 35 ⟨"BackupPlanner$Table", "<init>", "()V"⟩ "BackupPlanner", .methodLinkNest "BackupPlanner" 42 ⟨"BackupPlanner$Greedy", "<init>", "()V"⟩ "BackupPlanner",
  .methodLinkNest "BackupPlanner" 49 ⟨"BackupPlanner$Script", "<init>", "()V"⟩ "BackupPlanner", .methodLinkNest "BackupPlanner" 56 ⟨"BackupPlanner$Report", "<init>", "()V"⟩ "BackupPlanner",
  .methodLinkNest "BackupPlanner$Table" 46 ⟨"BackupPlanner", "rank", "(III)J"⟩ "BackupPlanner", .methodLinkNest "BackupPlanner$Disk" 70 ⟨"BackupPlanner", "rankSetOrEmpty", "(J)I"⟩ "BackupPlanner",
  .methodLinkNest "BackupPlanner$Disk" 46 ⟨"BackupPlanner", "contains", "(II)Z"⟩ "BackupPlanner", .methodLinkNest "BackupPlanner$Script" 153 ⟨"BackupPlanner", "rankSetOrEmpty", "(J)I"⟩ "BackupPlanner",
  .methodLinkNest "BackupPlanner$Table" 57 ⟨"BackupPlanner", "rankWeight", "(J)I"⟩ "BackupPlanner", .fieldLinkNest "BackupPlanner$Script" 96 "BackupPlanner" "COMMANDS" "[LBackupPlanner$Command;" "BackupPlanner",
  .methodLinkNest "BackupPlanner" 88 ⟨"BackupPlanner$Script", "runCommands", "(LBackupPlanner$Disk;LBackupPlanner$Table;I)Z"⟩ "BackupPlanner",
  .declares (Bundle.initS "java/lang/RuntimeException"), .declares (Bundle.initS "java/lang/Exception"), .declares (Bundle.initS Bundle.tN),
  .castable "java/lang/IllegalArgumentException" "java/lang/IllegalArgumentException", .castable "java/lang/IndexOutOfBoundsException" "java/lang/IndexOutOfBoundsException",
  .castable "java/lang/IllegalStateException" "java/lang/IllegalStateException",
  .arrayOver (.object "BackupPlanner$Disk"), .arrayOver (.array .long)]
/-- a word of those above, in any state with the same classes -/
def s_nw (w : Cond) : Bool := match w with
  | .methodLinkNest _ _ _ _ => true
  | .fieldLinkNest _ _ _ _ _ _ => true
  | .declares _ => true
  | .castable _ _ => true
  | .arrayOver (.object _) => true
  | .arrayOver (.array _) => true
  | _ => false
theorem s_nw_warm {w : Cond} {s U : State} (hw : s_nw w = true) (hW : s.WarmedH U.vm) (h : va_Nw w s) : va_Nw w U := by
  unfold s_nw at hw
  split at hw
  · exact va_Nw.warmM hW h
  · exact va_Nw.warmF hW h
  · exact va_Nw.warmD hW h
  · exact va_tabs rfl (rfl : (s.setVm U.vm).vm = U.vm) (by rw [Cond.castable_setVm hW.alike]; exact h)
  · exact va_AO.moved hW.alike h
  · exact over_moved hW.alike h
  · cases hw
theorem s_nw_same {w : Cond} {u U : State} (hw : s_nw w = true) (hv : u.vm = U.vm) (h : va_Nw w u) : va_Nw w U := by
  unfold s_nw at hw
  split at hw
  · exact va_tabs rfl hv h
  · exact va_tabs rfl hv h
  · exact va_tabs rfl hv h
  · exact va_tabs rfl hv h
  · exact va_AO.moved (by rw [hv]; exact Vm.Alike.refl _) h
  · exact over_moved (by rw [hv]; exact Vm.Alike.refl _) h
  · cases hw
