/-! THE LAUNCH: the constants out of what the Statement gives (written by wip/src/law9.py) -/
abbrev w_fl : List Cond := flatC (Jvm.Cond.and given_1 narrow_1)
abbrev w_tm (i : Nat) : Term := ([Term.string "BackupPlanner$Script" 40, Term.string "BackupPlanner$Script" 63, Term.string "BackupPlanner$Command" 67, Term.string "BackupPlanner$Command" 73, Term.string "BackupPlanner$Command" 76, Term.string "BackupPlanner$Command" 79, Term.string "BackupPlanner$Command" 82, Term.string "BackupPlanner$Command" 85, Term.string "BackupPlanner$Command" 88, Term.string "BackupPlanner$Command" 91, Term.string "BackupPlanner$Command" 94, Term.string "BackupPlanner$Command" 97, Term.string "BackupPlannerLaw" 114, Term.string "BackupPlannerLaw" 127] : List Term).getD i (.int 0)
abbrev w_px (i : Nat) : Nat := ([411, 422, 564, 581, 598, 620, 643, 666, 692, 717, 741, 767, 376, 385] : List Nat).getD i 0
theorem w_x0 : ∀ i, i < 14 → w_fl[w_px i]? = some (Cond.exactly (w_tm i) "java/lang/String") := by decide +kernel
theorem w_x1 : ∀ i, i < 14 → w_fl[w_px i + 1]? = some (Cond.eq (.field (w_tm i) "java/lang/String" "coder" "B") (.int 0)) := by decide +kernel
theorem w_x2 : ∀ i, i < 14 → w_fl[w_px i + 2]? = some (Cond.arrayOf (.field (w_tm i) "java/lang/String" "value" "[B") .byte) := by decide +kernel
theorem w_x3 : ∀ i, i < 14 → w_fl[w_px i + 3]? = some (Cond.eq (.length (.field (w_tm i) "java/lang/String" "value" "[B")) (.int (Int32.ofNat (s_len.getD i 0)))) := by decide +kernel
theorem w_x4 : ∀ i, i < 14 → ∀ j, j < s_len.getD i 0 → w_fl[w_px i + 4 + j]? = some (Cond.eq (.elem (.field (w_tm i) "java/lang/String" "value" "[B") (.int (Int32.ofNat j))) (.int ((s_byt.getD i []).getD j 0))) := by decide +kernel
theorem w_l31 : ∀ i, i < 14 → s_len.getD i 0 < 2 ^ 31 := by decide +kernel
theorem w_dist : ∀ i, i < 14 → ∀ j, j < 14 → s_len.getD i 0 = s_len.getD j 0 → (∀ q, q < s_len.getD i 0 → (s_byt.getD i []).getD q 0 = (s_byt.getD j []).getD q 0) → i = j := by decide +kernel
theorem w_ofs {o n d : String} {v w : Value} {t : Nat} {A : Nat → Prop} {s : State} {H : Heap} (h1 : va_OF o n d v t A s H) (h2 : va_OF o n d w t A s H) : v = w := by
  obtain ⟨cf, k, i, f, cell, a1, -, a2, -, a3, -⟩ := h1
  obtain ⟨cf', k', i', f', cell', b1, -, b2, -, b3, -⟩ := h2
  cases Option.some.inj (a1.symm.trans b1)
  cases Option.some.inj (a2.symm.trans b2)
  exact Option.some.inj (a3.symm.trans b3)
theorem w_tt {t N N' : Nat} {f g : Nat → Int32} {A : Nat → Prop} {s : State} {H : Heap} (h1 : va_T .byte t N (fun j => .int (f j)) A s H) (h2 : va_T .byte t N' (fun j => .int (g j)) A s H) (hN : N < 2 ^ 31) (hN' : N' < 2 ^ 31) : N = N' ∧ ∀ q, q < N → f q = g q := by
  obtain ⟨cell, a1, -, -, -, a3, a4, -⟩ := h1
  obtain ⟨cell', b1, -, -, -, b3, b4, -⟩ := h2
  cases Option.some.inj (a1.symm.trans b1)
  have e : N = N' := by
    have z := congrArg Int32.toInt (a3.symm.trans b3)
    have z1 : (Int32.ofNat N).toInt = (N : Int) := nI_toInt hN
    have z2 : (Int32.ofNat N').toInt = (N' : Int) := nI_toInt hN'
    rw [z1, z2] at z
    omega
  subst e
  refine ⟨rfl, fun q hq => ?_⟩
  have z := Option.some.inj ((a4 q hq).symm.trans (b4 q hq))
  exact Value.int.inj z
theorem w_str {args : Array Value} {s : State} {A : Nat → Prop} {tm : Term} {len : Nat} {byt : List Int32} (hlen : len < 2 ^ 31) (hex : (Cond.exactly tm "java/lang/String").before args s = true) (hco : (Cond.eq (.field tm "java/lang/String" "coder" "B") (.int 0)).before args s = true) (har : (Cond.arrayOf (.field tm "java/lang/String" "value" "[B") .byte).before args s = true)
    (hle : (Cond.eq (.length (.field tm "java/lang/String" "value" "[B")) (.int (Int32.ofNat len))).before args s = true) (hel : ∀ j, j < len → (Cond.eq (.elem (.field tm "java/lang/String" "value" "[B") (.int (Int32.ofNat j))) (.int (byt.getD j 0))).before args s = true) (hA : ∀ a : Nat, a < s.heap.size → ¬ A a) :
    ∃ a t : Nat, tm.eval args s none [] s = some (.ref a) ∧ va_O "java/lang/String" a A s s.heap ∧ va_OF "java/lang/String" "coder" "B" (.int 0) a A s s.heap ∧ va_OF "java/lang/String" "value" "[B" (.ref t) a A s s.heap ∧ va_T .byte t len (fun j => .int (byt.getD j 0)) A s s.heap := by
  have h0 : ∀ i : Nat, i < 1 → i = 0 := fun i hi => by omega
  have g1 : ∀ i : Nat, i < 1 → [len].getD i 0 < 2 ^ 31 := fun i hi => by
    cases h0 i hi
    exact hlen
  have g2 : ∀ i : Nat, i < 1 → (Cond.eq (.length (.field tm "java/lang/String" "value" "[B")) (.int (Int32.ofNat ([len].getD i 0)))).before args s = true := fun i hi => by
    cases h0 i hi
    exact hle
  have g3 : ∀ i : Nat, i < 1 → ∀ j : Nat, j < [len].getD i 0 → (Cond.eq (.elem (.field tm "java/lang/String" "value" "[B") (.int (Int32.ofNat j))) (.int (([byt].getD i []).getD j 0))).before args s = true := fun i hi j hj => by
    cases h0 i hi
    exact hel j hj
  obtain ⟨aK, aV, ⟨h1, -⟩, h2⟩ := vk_Sof (N := 1) (tm := fun _ => tm) (len := [len]) (byt := [byt]) (A := A) (args := args) (s := s) g1 (fun i hi => hex) (fun i hi => hco) (fun i hi => har) g2 g3 (fun i j hi hj hne => absurd ((h0 i hi).trans (h0 j hj).symm) hne) hA
  exact ⟨aK 0, aV 0, h2 0 (by omega), h1 0 (by omega)⟩
theorem w_S14 {args : Array Value} {s : State} {A : Nat → Prop} (hg : ∀ w ∈ w_fl, w.before args s = true) (hA : ∀ a : Nat, a < s.heap.size → ¬ A a) : ∃ aK aV : Nat → Nat, vk_S 14 s_len s_byt aK aV A s s.heap ∧ ∀ i, i < 14 → (w_tm i).eval args s none [] s = some (.ref (aK i)) := by
  have h0 : ∀ i : Nat, ∃ q : Nat × Nat, i < 14 → (w_tm i).eval args s none [] s = some (.ref q.1) ∧ va_O "java/lang/String" q.1 A s s.heap ∧ va_OF "java/lang/String" "coder" "B" (.int 0) q.1 A s s.heap ∧ va_OF "java/lang/String" "value" "[B" (.ref q.2) q.1 A s s.heap ∧ va_T .byte q.2 (s_len.getD i 0) (fun j => .int ((s_byt.getD i []).getD j 0)) A s s.heap := by
    intro i
    by_cases hi : i < 14
    · obtain ⟨a, t, h⟩ := w_str (tm := w_tm i) (len := s_len.getD i 0) (byt := s_byt.getD i []) (A := A) (w_l31 i hi) (hg _ (List.mem_of_getElem? (w_x0 i hi))) (hg _ (List.mem_of_getElem? (w_x1 i hi))) (hg _ (List.mem_of_getElem? (w_x2 i hi))) (hg _ (List.mem_of_getElem? (w_x3 i hi))) (fun j hj => hg _ (List.mem_of_getElem? (w_x4 i hi j hj))) hA
      exact ⟨(a, t), fun _ => h⟩
    · exact ⟨(0, 0), fun h => absurd h hi⟩
  obtain ⟨ad, had⟩ := Classical.axiomOfChoice h0
  refine ⟨fun i => (ad i).1, fun i => (ad i).2, ⟨fun i hi => (had i hi).2, fun i j hi hj e => ?_⟩, fun i hi => (had i hi).1⟩
  have e' : (ad i).1 = (ad j).1 := e
  obtain ⟨-, -, -, oi, ti⟩ := had i hi
  obtain ⟨-, -, -, oj, tj⟩ := had j hj
  rw [e'] at oi
  have et : (ad i).2 = (ad j).2 := Value.ref.inj (w_ofs oi oj)
  rw [et] at ti
  obtain ⟨z1, z2⟩ := w_tt ti tj (w_l31 i hi) (w_l31 j hj)
  exact w_dist i hi j hj z1 z2
/-! the commands -/
abbrev w_en (i : Nat) : String := (["ITEM", "PIN", "EXCLUDE", "RELEASE", "REMOVE", "CAPACITY", "BACKUP", "SIZE", "VALUE", "KEEP"] : List String).getD i ""
abbrev w_ec (i : Nat) : Term := .static s_eN (w_en i) "LBackupPlanner$Command;"
abbrev w_ck (i : Nat) : Nat := ([67, 73, 76, 79, 82, 85, 88, 91, 94, 97] : List Nat).getD i 0
abbrev w_pe (i : Nat) : Nat := ([245, 250, 256, 263, 271, 280, 290, 301, 313, 326] : List Nat).getD i 0
theorem w_e0 : ∀ i, i < 10 → w_fl[w_pe i]? = some (Cond.exactly (w_ec i) s_eN) := by decide +kernel
theorem w_e1 : ∀ i, i < 10 → w_fl[w_pe i + 1]? = some (Cond.eq (.field (w_ec i) "java/lang/Enum" "ordinal" "I") (.int (nI i))) := by decide +kernel
theorem w_e2 : ∀ i, i < 10 → w_fl[w_pe i + 2]? = some (Cond.eq (.field (w_ec i) s_eN "word" "Ljava/lang/String;") (.string s_eN (w_ck i))) := by decide +kernel
theorem w_e3 : ∀ i, i < 10 → w_fl[w_pe i + 3]? = some (Cond.eq (.field (w_ec i) s_eN "first" "I") (.int (s_c1 i))) := by decide +kernel
theorem w_e4 : ∀ i, i < 10 → w_fl[w_pe i + 4]? = some (Cond.eq (.field (w_ec i) s_eN "second" "I") (.int (s_c2 i))) := by decide +kernel
theorem w_e5 : ∀ i, i < 10 → w_tm (2 + i) = .string s_eN (w_ck i) := by decide +kernel
theorem w_E10 {args : Array Value} {s : State} {A : Nat → Prop} {aK : Nat → Nat} (hg : ∀ w ∈ w_fl, w.before args s = true) (hA : ∀ a : Nat, a < s.heap.size → ¬ A a) (hK : ∀ i, i < 14 → (w_tm i).eval args s none [] s = some (.ref (aK i))) :
    ∃ aE : Nat → Nat, ∀ i, i < 10 → (w_ec i).eval args s none [] s = some (.ref (aE i)) ∧ va_O s_eN (aE i) A s s.heap ∧ va_OF s_eN "word" "Ljava/lang/String;" (.ref (aK (2 + i))) (aE i) A s s.heap ∧ va_OF s_eN "first" "I" (.int (s_c1 i)) (aE i) A s s.heap ∧ va_OF s_eN "second" "I" (.int (s_c2 i)) (aE i) A s s.heap ∧ va_OF "java/lang/Enum" "ordinal" "I" (.int (nI i)) (aE i) A s s.heap := by
  have h0 : ∀ i : Nat, ∃ a : Nat, i < 10 → (w_ec i).eval args s none [] s = some (.ref a) ∧ va_O s_eN a A s s.heap ∧ va_OF s_eN "word" "Ljava/lang/String;" (.ref (aK (2 + i))) a A s s.heap ∧ va_OF s_eN "first" "I" (.int (s_c1 i)) a A s s.heap ∧ va_OF s_eN "second" "I" (.int (s_c2 i)) a A s s.heap ∧ va_OF "java/lang/Enum" "ordinal" "I" (.int (nI i)) a A s s.heap := by
    intro i
    by_cases hi : i < 10
    · have hex := hg _ (List.mem_of_getElem? (w_e0 i hi))
      obtain ⟨a, c, cA, kA, q1, -⟩ := Cond.exactly_spec (args := args) (first := s) (o := none) (s := s) (idx := []) (t := w_ec i) (cls := s_eN) hex
      have hs := hK (2 + i) (by omega)
      rw [w_e5 i hi] at hs
      exact ⟨a, fun _ => ⟨q1, va_Oof hex q1 hA, vk_OFof q1 (va_eqv (hg _ (List.mem_of_getElem? (w_e2 i hi))) hs) hA, vk_OFof q1 (va_eqt (hg _ (List.mem_of_getElem? (w_e3 i hi)))) hA, vk_OFof q1 (va_eqt (hg _ (List.mem_of_getElem? (w_e4 i hi)))) hA, vk_OFof q1 (va_eqt (hg _ (List.mem_of_getElem? (w_e1 i hi)))) hA⟩⟩
    · exact ⟨0, fun h => absurd h hi⟩
  exact Classical.axiomOfChoice h0
abbrev w_co : Term := .static "BackupPlanner" "COMMANDS" "[LBackupPlanner$Command;"
abbrev w_mp : Term := .static "BackupPlanner$1" "$SwitchMap$BackupPlanner$Command" "[I"
theorem w_c0' : w_fl[219]? = some (Cond.arrayOf w_co (.object s_eN)) := by decide +kernel
theorem w_c1' : w_fl[220]? = some (Cond.eq (.length w_co) (.int (Int32.ofNat 10))) := by decide +kernel
theorem w_c2' : ∀ j, j < 10 → w_fl[222 + j]? = some (Cond.eq (.elem w_co (.int (Int32.ofNat j))) (w_ec j)) := by decide +kernel
theorem w_m0' : w_fl[233]? = some (Cond.arrayOf w_mp .int) := by decide +kernel
theorem w_m1' : w_fl[234]? = some (Cond.eq (.length w_mp) (.int (Int32.ofNat 10))) := by decide +kernel
theorem w_m2' : ∀ j, j < 10 → w_fl[235 + j]? = some (Cond.eq (.elem w_mp (.int (Int32.ofNat j))) (.int (nI (j + 1)))) := by decide +kernel
abbrev w_do : Term := .static "java/lang/Integer" "DigitOnes" "[B"
abbrev w_dt : Term := .static "java/lang/Integer" "DigitTens" "[B"
theorem w_o0' : w_fl[10]? = some (Cond.arrayOf w_do .byte) := by decide +kernel
theorem w_o1' : w_fl[11]? = some (Cond.eq (.length w_do) (.int (Int32.ofNat 100))) := by decide +kernel
theorem w_o2' : ∀ j, j < 100 → w_fl[12 + j]? = some (Cond.eq (.elem w_do (.int (Int32.ofNat j))) (.int (nI (48 + j % 10)))) := by decide +kernel
theorem w_t0' : w_fl[113]? = some (Cond.arrayOf w_dt .byte) := by decide +kernel
theorem w_t1' : w_fl[114]? = some (Cond.eq (.length w_dt) (.int (Int32.ofNat 100))) := by decide +kernel
theorem w_t2' : ∀ j, j < 100 → w_fl[115 + j]? = some (Cond.eq (.elem w_dt (.int (Int32.ofNat j))) (.int (nI (48 + j / 10)))) := by decide +kernel
/-- the addresses of the constants -/
def w_ad (aK aV aE : Nat → Nat) (tC tM tO tD tS b : Nat) : Nat → Nat := fun k => if k < s_big + 100 then aK (k - s_big) else if k < s_big + 200 then aE (k - (s_big + 100)) else if k = s_big + 200 then tC else if k = s_big + 201 then tM else if k = s_big + 210 then tO else if k = s_big + 211 then tD else if k = s_big + 400 then tS else if k = s_big + 500 then b else aV (k - (s_big + 300))
section WAD
variable {aK aV aE : Nat → Nat} {tC tM tO tD tS b : Nat}
theorem w_adK {i : Nat} (hi : i < 14) : w_ad aK aV aE tC tM tO tD tS b (s_big + i) = aK i := by
  unfold w_ad
  rw [if_pos (by omega)]
  exact congrArg aK (by omega)
theorem w_adE {i : Nat} (hi : i < 10) : w_ad aK aV aE tC tM tO tD tS b (s_big + 100 + i) = aE i := by
  unfold w_ad
  rw [if_neg (by omega), if_pos (by omega)]
  exact congrArg aE (by omega)
theorem w_adC : w_ad aK aV aE tC tM tO tD tS b (s_big + 200) = tC := by
  unfold w_ad
  rw [if_neg (by omega), if_neg (by omega), if_pos rfl]
theorem w_adM : w_ad aK aV aE tC tM tO tD tS b (s_big + 201) = tM := by
  unfold w_ad
  rw [if_neg (by omega), if_neg (by omega), if_neg (by omega), if_pos rfl]
theorem w_adO : w_ad aK aV aE tC tM tO tD tS b (s_big + 210) = tO := by
  unfold w_ad
  rw [if_neg (by omega), if_neg (by omega), if_neg (by omega), if_neg (by omega), if_pos rfl]
theorem w_adT : w_ad aK aV aE tC tM tO tD tS b (s_big + 211) = tD := by
  unfold w_ad
  rw [if_neg (by omega), if_neg (by omega), if_neg (by omega), if_neg (by omega), if_neg (by omega), if_pos rfl]
theorem w_adS : w_ad aK aV aE tC tM tO tD tS b (s_big + 400) = tS := by
  unfold w_ad
  rw [if_neg (by omega), if_neg (by omega), if_neg (by omega), if_neg (by omega), if_neg (by omega), if_neg (by omega), if_pos rfl]
theorem w_adB : w_ad aK aV aE tC tM tO tD tS b (s_big + 500) = b := by
  unfold w_ad
  rw [if_neg (by omega), if_neg (by omega), if_neg (by omega), if_neg (by omega), if_neg (by omega), if_neg (by omega), if_neg (by omega), if_pos rfl]
theorem w_adV {i : Nat} (hi : i < 14) : w_ad aK aV aE tC tM tO tD tS b (s_big + 300 + i) = aV i := by
  unfold w_ad
  rw [if_neg (by omega), if_neg (by omega), if_neg (by omega), if_neg (by omega), if_neg (by omega), if_neg (by omega), if_neg (by omega), if_neg (by omega)]
  exact congrArg aV (by omega)
end WAD
theorem w_SQ {args : Array Value} {s : State} {A : Nat → Prop} {b L : Nat} {xs : Nat → Int32} (hL : L ≤ 260) (hX : va_X b L xs s s.heap) (hbl : b < s.heap.size) (hg : ∀ w ∈ w_fl, w.before args s = true) (hts : ∀ w ∈ lw_tbl, w.before args s = true) (hA : ∀ a : Nat, a < s.heap.size → ¬ A a) :
    ∃ ad : Nat → Nat, ad (s_big + 500) = b ∧ s_SQ ad A s s.heap ∧ ∀ i, i < 14 → (w_tm i).eval args s none [] s = some (.ref (ad (s_big + i))) := by
  have TW : ∀ {w : Cond} (i : Nat), lw_tbl[i]? = some w → w.before args s = true := fun i h => hts _ (List.mem_of_getElem? h)
  have F : ∀ {w : Cond} (i : Nat), w_fl[i]? = some w → w.before args s = true := fun i h => hg _ (List.mem_of_getElem? h)
  obtain ⟨aK, aV, hS, hK⟩ := w_S14 (A := A) hg hA
  obtain ⟨aE, hE⟩ := w_E10 (A := A) hg hA hK
  obtain ⟨tC, eC, hC⟩ := va_Tof (tm := w_co) (N := 10) (f := fun j => .ref (aE j)) (A := A) (by decide) (F 219 w_c0') (va_eqt (F 220 w_c1')) (fun j hj => va_eqv (F _ (w_c2' j hj)) (hE j hj).1) hA
  obtain ⟨tM, eM, hM⟩ := va_Tof (tm := w_mp) (N := 10) (f := fun j => .int (nI (j + 1))) (A := A) (by decide) (F 233 w_m0') (va_eqt (F 234 w_m1')) (fun j hj => va_eqt (F _ (w_m2' j hj))) hA
  obtain ⟨tO, eO, hO⟩ := va_Tof (tm := w_do) (N := 100) (f := fun j => .int (nI (48 + j % 10))) (A := A) (by decide) (F 10 w_o0') (va_eqt (F 11 w_o1')) (fun j hj => va_eqt (F _ (w_o2' j hj))) hA
  obtain ⟨tD, eD, hD⟩ := va_Tof (tm := w_dt) (N := 100) (f := fun j => .int (nI (48 + j / 10))) (A := A) (by decide) (F 113 w_t0') (va_eqt (F 114 w_t1')) (fun j hj => va_eqt (F _ (w_t2' j hj))) hA
  have zO : va_Z "java/lang/Integer" "DigitOnes" "[B" (.ref tO) A s s.heap := va_Zref (TW 433 (by decide +kernel)) (TW 37 (by decide +kernel)) eO hA
  have zD : va_Z "java/lang/Integer" "DigitTens" "[B" (.ref tD) A s s.heap := va_Zref (TW 435 (by decide +kernel)) (TW 37 (by decide +kernel)) eD hA
  have hB : va_T .int b L (fun j => .int (xs j)) A s s.heap := by
    obtain ⟨scr, q1, q2, q3, q4, q5⟩ := hX
    exact ⟨scr, q1, q2, q3, Nat.le_of_eq q4.symm, by rw [q4], q5, hA b hbl⟩
  have zC : va_Z "BackupPlanner" "COMMANDS" "[LBackupPlanner$Command;" (.ref tC) A s s.heap := va_Zref (TW 664 (by decide +kernel)) (TW 25 (by decide +kernel)) eC hA
  have zM : va_Z "BackupPlanner$1" "$SwitchMap$BackupPlanner$Command" "[I" (.ref tM) A s s.heap := va_Zref (TW 674 (by decide +kernel)) (TW 49 (by decide +kernel)) eM hA
  have zU : vx_Zq Bundle.tN "UNASSIGNED_STACK" Bundle.steD A s s.heap := vx_Zqof (TW 508 (by decide +kernel)) (TW 32 (by decide +kernel)) (F 215 (by decide +kernel)) hA
  have zL : vx_Zq Bundle.tN "SUPPRESSED_SENTINEL" Bundle.listD A s s.heap := vx_Zqof (TW 510 (by decide +kernel)) (TW 32 (by decide +kernel)) (F 216 (by decide +kernel)) hA
  have zK : va_Z "java/lang/String" "COMPACT_STRINGS" "Z" (.int 1) A s s.heap := va_Zof (TW 271 (by decide +kernel)) (TW 43 (by decide +kernel)) (va_eqt (F 4 (by decide +kernel))) hA
  have zS : ∃ (tS : Nat) (v : Value), (v = .null ∨ v = .ref tS) ∧ va_Z "jdk/internal/util/Preconditions" "SIOOBE_FORMATTER" "Ljava/util/function/BiFunction;" v A s s.heap := by
    rcases (vx_Zqof (C := "jdk/internal/util/Preconditions") (n := "SIOOBE_FORMATTER") (d := "Ljava/util/function/BiFunction;") (A := A) (TW 357 (by decide +kernel)) (TW 47 (by decide +kernel)) (F 5 (by decide +kernel)) hA).1 with h | ⟨t, h⟩
    · exact ⟨0, .null, Or.inl rfl, h⟩
    · exact ⟨t, .ref t, Or.inr rfl, h⟩
  obtain ⟨tS, v, hv, zS⟩ := zS
  refine ⟨w_ad aK aV aE tC tM tO tD tS b, w_adB, ⟨zU, zL, zK, ?_, ⟨⟨fun i hi => ?_, fun i j hi hj e => ?_⟩, ⟨by rw [w_adO]; exact zO, by rw [w_adO]; exact hO, by rw [w_adT]; exact zD, by rw [w_adT]; exact hD, L, xs, hL, by rw [w_adB]; exact hB⟩⟩, ?_⟩, fun i hi => by rw [w_adK hi]; exact hK i hi⟩
  · rcases hv with rfl | rfl
    · exact ⟨.null, Or.inl rfl, zS⟩
    · exact ⟨.ref (s_big + 400), Or.inr rfl, by
        show va_Z _ _ _ (.ref (w_ad aK aV aE tC tM tO tD tS b (s_big + 400))) A s s.heap
        rw [w_adS]
        exact zS⟩
  · show va_O _ (w_ad aK aV aE tC tM tO tD tS b (s_big + i)) A s s.heap ∧ va_OF _ _ _ _ (w_ad aK aV aE tC tM tO tD tS b (s_big + i)) A s s.heap ∧ va_OF _ _ _ (.ref (w_ad aK aV aE tC tM tO tD tS b (s_big + 300 + i))) (w_ad aK aV aE tC tM tO tD tS b (s_big + i)) A s s.heap ∧ va_T _ (w_ad aK aV aE tC tM tO tD tS b (s_big + 300 + i)) _ _ A s s.heap
    rw [w_adK hi, w_adV hi]
    exact hS.1 i hi
  · have e' : w_ad aK aV aE tC tM tO tD tS b (s_big + i) = w_ad aK aV aE tC tM tO tD tS b (s_big + j) := e
    rw [w_adK hi, w_adK hj] at e'
    exact hS.2 i j hi hj e'
  · have hCf : va_T (.object s_eN) tC 10 (fun j => .ref (w_ad aK aV aE tC tM tO tD tS b (s_big + 100 + j))) A s s.heap := by
      obtain ⟨cell, h1, h2, h3, h4, h5, h6, h7⟩ := hC
      exact ⟨cell, h1, h2, h3, h4, h5, fun j hj => by
        show cell.slots[j]? = some (.ref (w_ad aK aV aE tC tM tO tD tS b (s_big + 100 + j)))
        rw [w_adE hj]
        exact h6 j hj, h7⟩
    refine ⟨by rw [w_adC]; exact zC, by rw [w_adC]; exact hCf, by rw [w_adM]; exact zM, by rw [w_adM]; exact hM, fun i hi => ?_⟩
    rw [w_adE hi, show s_big + 2 + i = s_big + (2 + i) from Nat.add_assoc _ _ _, w_adK (show 2 + i < 14 by omega)]
    exact (hE i hi).2
theorem w_ST {args : Array Value} {s : State} {ad : Nat → Nat} (hg : ∀ w ∈ w_fl, w.before args s = true) (hts : ∀ w ∈ lw_tbl, w.before args s = true) (hK : ∀ i, i < 14 → (w_tm i).eval args s none [] s = some (.ref (ad (s_big + i)))) : s_ST ad s := by
  have TW : ∀ {w : Cond} (i : Nat), lw_tbl[i]? = some w → w.before args s = true := fun i h => hts _ (List.mem_of_getElem? h)
  have F : ∀ {w : Cond} (i : Nat), w_fl[i]? = some w → w.before args s = true := fun i h => hg _ (List.mem_of_getElem? h)
  have N : ∀ {w : Cond} (i : Nat), lw_tbl[i]? = some w → w.onTables = true → va_Nw w s := fun i h ho => va_Nw.of ho (TW i h)
  have TH : ∀ {q : Nat × String} (i j : Nat), w_fl[i]? = some (Cond.exactly (.string "BackupPlanner" q.1) "java/lang/String") → lw_tbl[j]? = some (Cond.stringRef "BackupPlanner" q.1 q.2) → ∃ sa : Nat, vk_R "BackupPlanner" q.1 q.2 sa s := fun {q} i j hi hj => by
    obtain ⟨a, c, cA, kA, q1, -⟩ := Cond.exactly_spec (args := args) (first := s) (o := none) (s := s) (idx := []) (t := .string "BackupPlanner" q.1) (cls := "java/lang/String") (F i hi)
    exact ⟨a, vk_R.of (TW j hj) q1⟩
  have ao1 : va_Nw (Cond.arrayOver (.object "BackupPlanner$Disk")) s := va_AO.of (C := "BackupPlanner$Disk") (A := args) (TW 121 (by decide +kernel))
  have ao2 : va_Nw (Cond.arrayOver (.array .long)) s := va_AOA.of (t := .long) (A := args) (TW 138 (by decide +kernel))
  refine ⟨?_, va_Nc.of (F 359 (by decide +kernel)), ?_, ?_⟩
  · exact List.forall_mem_cons.mpr ⟨N 61 (by decide +kernel) (by decide +kernel), List.forall_mem_cons.mpr ⟨N 122 (by decide +kernel) (by decide +kernel), List.forall_mem_cons.mpr ⟨N 133 (by decide +kernel) (by decide +kernel), List.forall_mem_cons.mpr ⟨N 162 (by decide +kernel) (by decide +kernel), List.forall_mem_cons.mpr ⟨N 175 (by decide +kernel) (by decide +kernel), List.forall_mem_cons.mpr ⟨N 208 (by decide +kernel) (by decide +kernel), List.forall_mem_cons.mpr ⟨N 698 (by decide +kernel) (by decide +kernel), List.forall_mem_cons.mpr ⟨N 710 (by decide +kernel) (by decide +kernel), List.forall_mem_cons.mpr ⟨N 719 (by decide +kernel) (by decide +kernel), List.forall_mem_cons.mpr ⟨N 737 (by decide +kernel) (by decide +kernel), List.forall_mem_cons.mpr ⟨N 926 (by decide +kernel) (by decide +kernel), List.forall_mem_cons.mpr ⟨N 663 (by decide +kernel) (by decide +kernel), List.forall_mem_cons.mpr ⟨N 645 (by decide +kernel) (by decide +kernel), List.forall_mem_cons.mpr ⟨N 485 (by decide +kernel) (by decide +kernel), List.forall_mem_cons.mpr ⟨N 487 (by decide +kernel) (by decide +kernel), List.forall_mem_cons.mpr ⟨N 489 (by decide +kernel) (by decide +kernel), List.forall_mem_cons.mpr ⟨N 483 (by decide +kernel) (by decide +kernel), List.forall_mem_cons.mpr ⟨N 793 (by decide +kernel) (by decide +kernel), List.forall_mem_cons.mpr ⟨N 892 (by decide +kernel) (by decide +kernel), List.forall_mem_cons.mpr ⟨ao1, List.forall_mem_cons.mpr ⟨ao2, fun _ z => nomatch z⟩⟩⟩⟩⟩⟩⟩⟩⟩⟩⟩⟩⟩⟩⟩⟩⟩⟩⟩⟩⟩
  · exact List.forall_mem_cons.mpr ⟨TH 504 899 (by decide +kernel) (by decide +kernel), List.forall_mem_cons.mpr ⟨TH 436 777 (by decide +kernel) (by decide +kernel), List.forall_mem_cons.mpr ⟨TH 473 800 (by decide +kernel) (by decide +kernel), List.forall_mem_cons.mpr ⟨TH 531 1083 (by decide +kernel) (by decide +kernel), fun _ z => nomatch z⟩⟩⟩⟩
  · exact List.forall_mem_cons.mpr ⟨vk_R.of (TW 625 (by decide +kernel)) (hK 0 (by omega)), List.forall_mem_cons.mpr ⟨vk_R.of (TW 649 (by decide +kernel)) (hK 1 (by omega)), List.forall_mem_cons.mpr ⟨vk_R.of (TW 292 (by decide +kernel)) (hK 12 (by omega)), List.forall_mem_cons.mpr ⟨vk_R.of (TW 444 (by decide +kernel)) (hK 13 (by omega)), fun _ z => nomatch z⟩⟩⟩⟩
/-! the classes -/
theorem w_arr {s : State} {c comp : ClassId} {k : Class} {ty : FieldType} (h1 : s.vm.classes[c]? = some k) (h2 : k.kind = .array comp ty) : ArrOfT s c ty := fun n z => ⟨fun k => (by intro e; cases e), k, h1, comp, h2⟩
/-- a private method of a class above one that can be made: the word of its call, by the word of a public one's -/
theorem w_pv {y z : MethodName} {s : State} {args : Array Value} {n : Nat} (hc : z.cls = y.cls) (hy : y.cls ≠ "java/lang/invoke/MethodHandle" ∧ y.cls ≠ "java/lang/invoke/VarHandle") (hins : (Cond.instantiable RJ4 n).before args s = true) (hpriv : (Cond.privateMethod y).before args s = true) (hinst : (Cond.instanceMethod y).before args s = true) (hz : (Cond.selects RJ4 z z).before args s = true) : (Cond.selects RJ4 y y).before args s = true := by
  obtain ⟨c, k, h1, h2, -⟩ := Cond.instantiable_spec hins
  obtain ⟨mk, mm, hnamed, hmm, -, -⟩ := Cond.instanceMethod_spec hinst
  have hfound : s.methodFound? y.cls y.name y.desc = some mk := State.methodFound?_of_named hnamed hy
  have hsel : selectMethod {} s.vm c mk = .method mk := selectMethod_private hmm (Cond.privateMethod_at hpriv mk mm hnamed hmm)
  obtain ⟨c2, r2, m2, -, -, h3, -, kk, hkk, hni⟩ := Cond.selects_spec hz
  have e : m2.cls = mk.cls := by
    have a := findClass_of_methodNamed h3
    rw [hc] at a
    exact Option.some.inj (a.symm.trans (findClass_of_methodNamed hnamed))
  rw [e] at hkk
  simp only [Cond.before, Cond.holds, Cond.value, h1, hfound, hnamed, hsel, hkk]
  simp
  exact hni
theorem w_hts {args : Array Value} {s : State} (hts : ∀ w ∈ lw_tbl, w.before args s = true) : ∀ w ∈ s_pv ++ lw_tbl, w.before args s = true := by
  have TW : ∀ {w : Cond} (i : Nat), lw_tbl[i]? = some w → w.before args s = true := fun i h => hts _ (List.mem_of_getElem? h)
  have P : ∀ {y : MethodName} (i j : Nat), yJ5_isLatin1_aae02.cls = y.cls → (y.cls ≠ "java/lang/invoke/MethodHandle" ∧ y.cls ≠ "java/lang/invoke/VarHandle") → lw_tbl[i]? = some (Cond.privateMethod y) → lw_tbl[j]? = some (Cond.instanceMethod y) → (Cond.selects RJ4 y y).before args s = true := fun {y} i j h1 h2 h3 h4 =>
    w_pv (n := 4) h1 h2 (TW 262 (by decide +kernel)) (TW i h3) (TW j h4) (TW (w := Cond.selects RJ4 yJ5_isLatin1_aae02 yJ5_isLatin1_aae02) 342 (by decide +kernel))
  intro w hw
  rcases List.mem_append.mp hw with hw | hw
  · have hp : ∀ w ∈ s_pv, w.before args s = true := List.forall_mem_cons.mpr ⟨P 305 306 rfl ⟨by decide +kernel, by decide +kernel⟩ (by decide +kernel) (by decide +kernel), List.forall_mem_cons.mpr ⟨P 309 310 rfl ⟨by decide +kernel, by decide +kernel⟩ (by decide +kernel) (by decide +kernel), List.forall_mem_cons.mpr ⟨P 380 381 rfl ⟨by decide +kernel, by decide +kernel⟩ (by decide +kernel) (by decide +kernel), List.forall_mem_cons.mpr ⟨P 384 385 rfl ⟨by decide +kernel, by decide +kernel⟩ (by decide +kernel) (by decide +kernel), fun _ z => nomatch z⟩⟩⟩⟩
    exact hp w hw
  · exact hts w hw
theorem w_cls {args : Array Value} {s : State} (hts : ∀ w ∈ s_pv ++ lw_tbl, w.before args s = true) : ∃ X : va_G × (Nat → ClassId), va_K X.1 vwCl (s_tys X.2) s := by
  have TW : ∀ {w : Cond} (i : Nat), lw_tbl[i]? = some w → w.before args s = true := fun i h => hts _ (List.mem_append_right _ (List.mem_of_getElem? h))
  have hin : ∀ {C : String} {T : u_T} {N : Nat}, (∀ w ∈ u_ws C T N, w ∈ s_WL) → ∀ w ∈ u_ws C T N, w ∈ s_pv ++ lw_tbl := fun h w hw => s_WL_in (h w hw)
  have h0 : ∀ c : Nat, ∃ r : ClassId × (Nat → Nat), ∀ q : vw_C, vwCl[c]? = some q → u_Kn s q.1 q.2.1 q.2.2 r.1 r.2 := by
    have U : ∀ {C : String} {T : u_T} {N n : Nat}, (∀ w ∈ u_ws C T N, w ∈ s_WL) → (Cond.instantiable C n).before args s = true → ∃ r : ClassId × (Nat → Nat), ∀ q : vw_C, some (C, T, N) = some q → u_Kn s q.1 q.2.1 q.2.2 r.1 r.2 := fun {C T N n} h hi => by
      obtain ⟨cC, iS, hk⟩ := u_known hts (hin h) hi
      exact ⟨(cC, iS), fun q hq => by cases hq; exact hk⟩
    intro c
    match c with
    | 0 => exact U (n := 9) wiX2 (TW 60 (by decide +kernel))
    | 1 => exact U (n := 2) wiX3 (TW 161 (by decide +kernel))
    | 2 => exact U (n := 2) wiX4 (TW 115 (by decide +kernel))
    | 3 => exact U (n := 2) wiX5 (TW 207 (by decide +kernel))
    | 4 => exact U (n := 8) wiX6 (TW 174 (by decide +kernel))
    | 5 => exact U (n := 6) wiX7 (TW 132 (by decide +kernel))
    | 6 => exact U (n := 9) wiX8 (TW 52 (by decide +kernel))
    | 7 => exact U (n := 4) wiJ0 (TW 450 (by decide +kernel))
    | 8 => exact U (n := 4) wiJ4 (TW 262 (by decide +kernel))
    | k + 9 => exact ⟨(0, fun _ => 0), fun q hq => by simp at hq⟩
  obtain ⟨D, hD⟩ := Classical.axiomOfChoice h0
  obtain ⟨c0, k0, p0, a1, a2, a3⟩ := Cond.arrayClass_spec (TW 113 (by decide +kernel) : (Cond.arrayClass .int).before args s = true)
  obtain ⟨c1, k1, p1, b1, b2, b3⟩ := Cond.arrayClass_spec (TW 159 (by decide +kernel) : (Cond.arrayClass .long).before args s = true)
  obtain ⟨c2, k2, p2, d1, d2, d3⟩ := Cond.arrayClass_spec (TW 205 (by decide +kernel) : (Cond.arrayClass .byte).before args s = true)
  obtain ⟨p3, c3, k3, e1, -, e2, e3, e4⟩ := Cond.arrayOver_spec (TW 121 (by decide +kernel) : (Cond.arrayOver (.object "BackupPlanner$Disk")).before args s = true)
  obtain ⟨p4, c4, k4, f1, f2, f3, f4⟩ := Cond.arrayOver_specA (TW 138 (by decide +kernel) : (Cond.arrayOver (.array .long)).before args s = true)
  refine ⟨((fun c => (D c).1, fun c => (D c).2), fun i => [c0, c1, c2, c3, c4].getD i 0), fun c q hq => hD c q hq, fun k q hq => ?_⟩
  have hk : k = 0 ∨ k = 1 ∨ k = 2 ∨ k = 3 ∨ k = 4 ∨ 5 ≤ k := by omega
  rcases hk with rfl | rfl | rfl | rfl | rfl | hk
  · cases hq
    exact ⟨w_arr a2 a3, a1⟩
  · cases hq
    exact ⟨w_arr b2 b3, b1⟩
  · cases hq
    exact ⟨w_arr d2 d3, d1⟩
  · cases hq
    exact ⟨w_arr e2 e3, k3, p3, e2, e3, e1, e4⟩
  · cases hq
    exact ⟨w_arr f2 f3, f4⟩
  · rw [show (s_tys (fun i => [c0, c1, c2, c3, c4].getD i 0))[k]? = none from List.getElem?_eq_none (by show 5 ≤ k; exact hk)] at hq
    cases hq
