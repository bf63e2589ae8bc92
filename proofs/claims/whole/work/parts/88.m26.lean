/-! THE MODEL: what the script's runs keep; a text by a wide index -/
/-- a good state comes of a good one, further on; what fails has an error -/
def x_wf (len : Nat) (rp : x_S → Bool × x_S) : Prop := ∀ S : x_S, S.2.1 = 0 → S.2.2.2.1 ≤ len → ((rp S).1 = true → (rp S).2.2.1 = 0 ∧ S.2.2.2.1 ≤ (rp S).2.2.2.2.1 ∧ (rp S).2.2.2.2.1 ≤ len) ∧ ((rp S).1 = false → ¬ (rp S).2.2.1 = 0)
theorem x_next_q {tx : Nat → Int32} {len : Nat} {S : x_S} (h : S.2.2.2.1 ≤ len) : S.2.2.2.1 ≤ (x_next tx len S).2.2.2.1 ∧ (x_next tx len S).2.2.2.1 ≤ len := by
  have := x_tok_le (tx := tx) h
  exact ⟨Nat.le_trans this.2.2 this.1, this.2.1⟩
theorem x_next_gt {tx : Nat → Int32} {len : Nat} {S : x_S} (h : S.2.2.2.1 ≤ len) (hk : (x_next tx len S).2.2.2.2.1 = 1) : S.2.2.2.1 < (x_next tx len S).2.2.2.1 := by
  have h1 := x_sk_le (tx := tx) (len := len) (len - S.2.2.2.1) S.2.2.2.1 (by omega)
  change (x_tok tx len S.2.2.2.1).2.1 = 1 at hk
  show S.2.2.2.1 < (x_tok tx len S.2.2.2.1).1
  unfold x_tok x_at at hk ⊢
  split at hk
  · exact absurd hk (show ¬ (0 : Int32) = 1 by decide)
  · rename_i hlt
    rw [if_neg hlt]
    have h2 := x_rn_le (tx := tx) (k := x_kd (tx (x_sk tx (len - S.2.2.2.1) S.2.2.2.1))) (len := len) (len - (x_sk tx (len - S.2.2.2.1) S.2.2.2.1 + 1)) (x_sk tx (len - S.2.2.2.1) S.2.2.2.1 + 1) (by omega)
    split
    · dsimp only
      omega
    · dsimp only
      omega
/-- a number within bounds, on both sides -/
theorem m_num {tx : Nat → Int32} {len : Nat} {S : x_S} {lo hi : Int32} (hlo : 0 ≤ lo) (hg : S.2.1 = 0) :
    ((x_rd tx len S.2.2.2.1 lo hi).1 = -1 ∧ m_nu tx lo hi (x_next tx len S) = x_num tx len lo hi S ∧ ¬ (x_num tx len lo hi S).2.1 = 0) ∨
    (¬ (x_rd tx len S.2.2.2.1 lo hi).1 = -1 ∧ m_nu tx lo hi (x_next tx len S) = x_next tx len S ∧ x_num tx len lo hi S = x_next tx len S ∧ m_nv tx lo hi (x_next tx len S) = (x_rd tx len S.2.2.2.1 lo hi).1) := by
  have hg' : (x_next tx len S).2.1 = 0 := hg
  unfold x_num
  by_cases hk2 : (x_next tx len S).2.2.2.2.1 = 2
  · by_cases hb : (x_nm tx ((x_next tx len S).2.2.2.1 - (x_next tx len S).2.2.2.2.2.1) (x_next tx len S).2.2.2.2.2.1 0) < lo ∨ hi < (x_nm tx ((x_next tx len S).2.2.2.1 - (x_next tx len S).2.2.2.2.2.1) (x_next tx len S).2.2.2.2.2.1 0)
    · have r : x_rd tx len S.2.2.2.1 lo hi = (-1, 2) := (if_pos hk2).trans (if_pos hb)
      rw [r, m_nu_2 (fun _ => ⟨hk2, hb⟩), m_fl_y hg']
      exact Or.inl ⟨rfl, rfl, show ¬ (2 : Int32) = 0 by decide⟩
    · have r : x_rd tx len S.2.2.2.1 lo hi = ((x_nm tx ((x_next tx len S).2.2.2.1 - (x_next tx len S).2.2.2.2.2.1) (x_next tx len S).2.2.2.2.2.1 0), 0) := (if_pos hk2).trans (if_neg hb)
      have h0 := m_nu_0 (tx := tx) (lo := lo) (hi := hi) (S := x_next tx len S) (fun _ => ⟨hk2, hb⟩)
      refine Or.inr ?_
      rw [r]
      refine ⟨fun z => hb (Or.inl ?_), h0, rfl, ?_⟩
      · rw [show (x_nm tx ((x_next tx len S).2.2.2.1 - (x_next tx len S).2.2.2.2.2.1) (x_next tx len S).2.2.2.2.2.1 0) = -1 from z]
        exact Int32.not_le.mp (fun y => absurd (Int32.le_trans hlo y) (by decide))
      · unfold m_nv
        rw [h0]
        exact if_pos hg'
  · have r : x_rd tx len S.2.2.2.1 lo hi = (-1, 1) := if_neg hk2
    rw [r, m_nu_1 (fun _ => hk2), m_fl_y hg']
    exact Or.inl ⟨rfl, rfl, show ¬ (1 : Int32) = 0 by decide⟩
theorem x_arg_wf {tx : Nat → Int32} {len kd : Nat} {S : x_S} (hk : kd < 6) (hg : S.2.1 = 0) (hq : S.2.2.2.1 ≤ len) : ((x_arg tx len kd S).1 = -1 → ¬ (x_arg tx len kd S).2.2.1 = 0) ∧ (¬ (x_arg tx len kd S).1 = -1 → (x_arg tx len kd S).2.2.1 = 0 ∧ S.2.2.2.1 ≤ (x_arg tx len kd S).2.2.2.2.1 ∧ (x_arg tx len kd S).2.2.2.2.1 ≤ len) := by
  have key : ∀ lo hi : Int32, ¬ kd = 0 → x_ar tx len S.2.2.2.1 (x_cn S.1) kd = x_rd tx len S.2.2.2.1 lo hi → 0 ≤ lo → ((x_arg tx len kd S).1 = -1 → ¬ (x_arg tx len kd S).2.2.1 = 0) ∧ (¬ (x_arg tx len kd S).1 = -1 → (x_arg tx len kd S).2.2.1 = 0 ∧ S.2.2.2.1 ≤ (x_arg tx len kd S).2.2.2.2.1 ∧ (x_arg tx len kd S).2.2.2.2.1 ≤ len) := fun lo hi h1 h2 h3 => by
    rcases m_arg h1 h2 h3 hg with ⟨a1, a2, a3⟩ | ⟨a1, a2, a3, a4⟩
    · exact ⟨fun _ => a3, fun z => absurd a1 z⟩
    · refine ⟨fun z => absurd z a1, fun _ => ?_⟩
      rw [a3]
      exact ⟨hg, x_next_q hq⟩
  match kd, hk with
  | 0, _ =>
    rw [x_arg0]
    exact ⟨fun z => absurd z (show ¬ (0 : Int32) = -1 by decide), fun _ => ⟨hg, Nat.le_refl _, hq⟩⟩
  | 1, _ => exact key 0 (nI (x_cn S.1) - 1) (by decide) rfl (by decide)
  | 2, _ => exact key 1 60 (by decide) rfl (by decide)
  | 3, _ => exact key 0 999 (by decide) rfl (by decide)
  | 4, _ => exact key 0 100 (by decide) rfl (by decide)
  | 5, _ => exact key 1 50 (by decide) rfl (by decide)
theorem x_exec_wf {j : Nat} {v1 v2 : Int32} {S : x_S} (hg : S.2.1 = 0) : ((x_exec j v1 v2 S).1 = true → (x_exec j v1 v2 S).2.2.1 = 0 ∧ (x_exec j v1 v2 S).2.2.2.2.1 = S.2.2.2.1) ∧ ((x_exec j v1 v2 S).1 = false → ¬ (x_exec j v1 v2 S).2.2.1 = 0) := by
  have n3 : ¬ (3 : Int32) = 0 := by decide
  unfold x_exec
  split
  all_goals (try split)
  all_goals (refine ⟨fun z => ?_, fun z => ?_⟩ <;> first | exact ⟨hg, rfl⟩ | exact n3 | cases z)
theorem x_do_wf {tx : Nat → Int32} {len j : Nat} (hj : j < 10) : x_wf len (x_do tx len j) := fun S hg hq => by
  obtain ⟨-, hk1, -, hk2⟩ := x_k_ok j hj
  obtain ⟨a1, a2⟩ := x_arg_wf (tx := tx) hk1 hg hq
  unfold x_do
  split
  · rename_i h
    exact ⟨fun z => (by cases z), fun _ => a1 h⟩
  · rename_i h
    obtain ⟨a3, a4, a5⟩ := a2 h
    obtain ⟨b1, b2⟩ := x_arg_wf (tx := tx) hk2 a3 a5
    split
    · rename_i h2
      exact ⟨fun z => (by cases z), fun _ => b1 h2⟩
    · rename_i h2
      obtain ⟨b3, b4, b5⟩ := b2 h2
      have hn := x_next_q (tx := tx) b5
      have hgn : (x_next tx len (x_arg tx len (x_k2 j) (x_arg tx len (x_k1 j) S).2).2).2.1 = 0 := b3
      split
      · obtain ⟨e1, e2⟩ := x_exec_wf (j := j) (v1 := (x_arg tx len (x_k1 j) S).1) (v2 := (x_arg tx len (x_k2 j) (x_arg tx len (x_k1 j) S).2).1) hgn
        refine ⟨fun z => ⟨(e1 z).1, ?_⟩, e2⟩
        rw [(e1 z).2]
        exact ⟨Nat.le_trans a4 (Nat.le_trans b4 hn.1), hn.2⟩
      · exact ⟨fun z => (by cases z), fun _ => show ¬ (1 : Int32) = 0 by decide⟩
theorem x_fc_w {tx : Nat → Int32} {q t : Nat} {tk : Int32} : ∀ r j k, x_fc tx q tk t r j = some k → tk = 1
  | 0, j, k, h => by cases h
  | r + 1, j, k, h => by
    unfold x_fc at h
    split at h
    · rename_i e
      unfold x_is at e
      simp only [Bool.and_eq_true, decide_eq_true_eq] at e
      exact e.1.1
    · exact x_fc_w r (j + 1) k h
theorem x_cmd_wf {tx : Nat → Int32} {len : Nat} : x_wf len (x_cmd tx len) := fun S hg hq => by
  cases hfc : x_fc tx S.2.2.2.1 S.2.2.2.2.1 S.2.2.2.2.2.1 10 0 with
  | none =>
    rw [x_cmd_n hfc]
    exact ⟨fun z => (by cases z), fun _ => show ¬ (1 : Int32) = 0 by decide⟩
  | some j =>
    by_cases h5 : 100 ≤ S.2.2.2.2.2.2
    · rw [x_cmd_5 hfc h5]
      exact ⟨fun z => (by cases z), fun _ => show ¬ (5 : Int32) = 0 by decide⟩
    · rw [x_cmd_s hfc h5]
      exact x_do_wf (x_fc_lt 10 0 rfl j hfc) (x_ex1 S) hg hq
theorem x_cmd_w {tx : Nat → Int32} {len : Nat} {S : x_S} (h : (x_cmd tx len S).1 = true) : S.2.2.2.2.1 = 1 := by
  cases hfc : x_fc tx S.2.2.2.1 S.2.2.2.2.1 S.2.2.2.2.2.1 10 0 with
  | none =>
    rw [x_cmd_n hfc] at h
    cases h
  | some j => exact x_fc_w 10 0 j hfc
/-- a command or a repeat -/
noncomputable def x_stp (tx : Nat → Int32) (len : Nat) (rp : x_S → Bool × x_S) (S : x_S) : Bool × x_S := if x_is tx S.2.2.2.1 S.2.2.2.2.1 S.2.2.2.2.2.1 1 = true then rp S else x_cmd tx len S
theorem x_stp_y {tx : Nat → Int32} {len : Nat} {rp : x_S → Bool × x_S} {S : x_S} (h : x_is tx S.2.2.2.1 S.2.2.2.2.1 S.2.2.2.2.2.1 1 = true) : x_stp tx len rp S = rp S := if_pos h
theorem x_stp_n {tx : Nat → Int32} {len : Nat} {rp : x_S → Bool × x_S} {S : x_S} (h : ¬ x_is tx S.2.2.2.1 S.2.2.2.2.1 S.2.2.2.2.2.1 1 = true) : x_stp tx len rp S = x_cmd tx len S := if_neg h
theorem x_stp_wf {tx : Nat → Int32} {len : Nat} {rp : x_S → Bool × x_S} (hr : x_wf len rp) : x_wf len (x_stp tx len rp) := fun S hg hq => by
  unfold x_stp
  split
  · exact hr S hg hq
  · exact x_cmd_wf S hg hq
theorem x_stp_w {tx : Nat → Int32} {len : Nat} {rp : x_S → Bool × x_S} {S : x_S} (h : (x_stp tx len rp S).1 = true) : S.2.2.2.2.1 = 1 := by
  unfold x_stp at h
  split at h
  · rename_i e
    unfold x_is at e
    simp only [Bool.and_eq_true, decide_eq_true_eq] at e
    exact e.1.1
  · exact x_cmd_w h
theorem x_stp_ok {tx : Nat → Int32} {len : Nat} {rp : x_S → Bool × x_S} (hr : x_keeps rp) {S : x_S} {cnt cp : Nat} (ok : d_ok S.1 cnt cp) (hex : S.2.2.2.2.2.2 ≤ 100) : (x_stp tx len rp S).2.2.2.2.2.2.2 ≤ 100 := by
  unfold x_stp
  split
  · exact (hr S cnt cp ok hex).2
  · exact (x_cmd_ok ok hex).2
theorem x_rcF_s {tx : Nat → Int32} {len f : Nat} {rp : x_S → Bool × x_S} {fin : Int32} {S : x_S} : x_rcF tx len rp fin (f + 1) S = if (x_next tx len S).2.2.2.2.1 = fin then (true, x_next tx len S) else if (x_stp tx len rp (x_next tx len S)).1 = true then x_rcF tx len rp fin f (x_stp tx len rp (x_next tx len S)).2 else (false, (x_stp tx len rp (x_next tx len S)).2) := by
  show (if _ then _ else _) = _
  split
  · rfl
  · unfold x_stp
    split <;> rfl
theorem x_rcF_wf {tx : Nat → Int32} {len : Nat} {rp : x_S → Bool × x_S} {fin : Int32} (hr : x_wf len rp) : ∀ f (S : x_S), S.2.1 = 0 → S.2.2.2.1 ≤ len → len - S.2.2.2.1 < f → ((x_rcF tx len rp fin f S).1 = true → (x_rcF tx len rp fin f S).2.2.1 = 0 ∧ S.2.2.2.1 ≤ (x_rcF tx len rp fin f S).2.2.2.2.1 ∧ (x_rcF tx len rp fin f S).2.2.2.2.1 ≤ len) ∧ ((x_rcF tx len rp fin f S).1 = false → ¬ (x_rcF tx len rp fin f S).2.2.1 = 0)
  | 0, S, _, _, h => by omega
  | f + 1, S, hg, hq, hf => by
    have hn := x_next_q (tx := tx) hq
    have hgn : (x_next tx len S).2.1 = 0 := hg
    rw [x_rcF_s]
    split
    · exact ⟨fun _ => ⟨hgn, hn⟩, fun z => (by cases z)⟩
    · obtain ⟨s1, s2⟩ := x_stp_wf hr (tx := tx) (x_next tx len S) hgn hn.2
      split
      · rename_i hs
        obtain ⟨t1, t2, t3⟩ := s1 hs
        have hgt := x_next_gt hq (x_stp_w hs)
        obtain ⟨u1, u2⟩ := x_rcF_wf (fin := fin) hr f _ t1 t3 (by omega)
        exact ⟨fun z => ⟨(u1 z).1, by have := (u1 z).2.1; omega, (u1 z).2.2⟩, u2⟩
      · rename_i hs
        exact ⟨fun z => (by cases z), fun _ => s2 (by revert hs; cases (x_stp tx len rp (x_next tx len S)).1 <;> simp)⟩
theorem x_rcF_wf' {tx : Nat → Int32} {len : Nat} {rp : x_S → Bool × x_S} {fin : Int32} (hr : x_wf len rp) (hl : len ≤ 500) : x_wf len (x_rcF tx len rp fin 501) := fun S hg hq => x_rcF_wf hr 501 S hg hq (by omega)
theorem x_rpl_wf {tx : Nat → Int32} {len body : Nat} {rc : x_S → Bool × x_S} (hr : x_wf len rc) (hb : body ≤ len) : ∀ r (S : x_S), S.2.1 = 0 → S.2.2.2.1 ≤ len → ((x_rpl tx len rc body r S).1 = true → (x_rpl tx len rc body r S).2.2.1 = 0 ∧ (r = 0 → S.2.2.2.1 ≤ (x_rpl tx len rc body r S).2.2.2.2.1) ∧ (0 < r → body ≤ (x_rpl tx len rc body r S).2.2.2.2.1) ∧ (x_rpl tx len rc body r S).2.2.2.2.1 ≤ len) ∧ ((x_rpl tx len rc body r S).1 = false → ¬ (x_rpl tx len rc body r S).2.2.1 = 0)
  | 0, S, hg, hq => by
    have hn := x_next_q (tx := tx) hq
    unfold x_rpl
    split
    · exact ⟨fun _ => ⟨hg, fun _ => hn.1, fun z => (by omega), hn.2⟩, fun z => (by cases z)⟩
    · exact ⟨fun z => (by cases z), fun _ => show ¬ (1 : Int32) = 0 by decide⟩
  | r + 1, S, hg, hq => by
    obtain ⟨s1, s2⟩ := hr (x_to body S) hg hb
    unfold x_rpl
    split
    · rename_i hs
      obtain ⟨t1, t2, t3⟩ := s1 hs
      obtain ⟨u1, u2⟩ := x_rpl_wf (tx := tx) hr hb r _ t1 t3
      refine ⟨fun z => ?_, u2⟩
      obtain ⟨v1, v2, v3, v4⟩ := u1 z
      refine ⟨v1, fun z => (by omega), fun _ => ?_, v4⟩
      have t2' : body ≤ (rc (x_to body S)).2.2.2.2.1 := t2
      by_cases e : r = 0
      · exact Nat.le_trans t2' (v2 e)
      · exact v3 (by omega)
    · rename_i hs
      exact ⟨fun z => (by cases z), fun _ => s2 (by revert hs; cases (rc (x_to body S)).1 <;> simp)⟩
theorem x_rpF_wf {tx : Nat → Int32} {len : Nat} {rc : x_S → Bool × x_S} (hr : x_wf len rc) : x_wf len (x_rpF tx len rc) := fun S hg hq => by
  unfold x_rpF
  rcases m_num (tx := tx) (len := len) (S := S) (lo := 1) (hi := 20) (by decide) hg with ⟨a1, a2, a3⟩ | ⟨a1, a2, a3, a4⟩
  · rw [if_pos a1]
    exact ⟨fun z => (by cases z), fun _ => a3⟩
  · rw [if_neg a1, a3]
    have hn := x_next_q (tx := tx) hq
    have hn2 := x_next_q (tx := tx) hn.2
    split
    · obtain ⟨u1, u2⟩ := x_rpl_wf (tx := tx) hr hn2.2 (x_rd tx len S.2.2.2.1 1 20).1.toNatClampNeg (x_next tx len (x_next tx len S)) hg hn2.2
      refine ⟨fun z => ?_, u2⟩
      obtain ⟨v1, v2, v3, v4⟩ := u1 z
      refine ⟨v1, ?_, v4⟩
      by_cases e : (x_rd tx len S.2.2.2.1 1 20).1.toNatClampNeg = 0
      · have := v2 e; omega
      · have := v3 (by omega); omega
    · exact ⟨fun z => (by cases z), fun _ => show ¬ (1 : Int32) = 0 by decide⟩
theorem x_rp2_wf {len : Nat} : x_wf len (fun S => (false, x_fail S 4)) := fun S _ _ => ⟨fun z => (by cases z), fun _ => show ¬ (4 : Int32) = 0 by decide⟩
theorem x_ldcw {p : Program} {l : Launch} {e : Env} {R : Room} {s : State} {m : MethodId} {args : Array Value} {below : List Frame} {meth : Method} {c : Code} {T : State} {locs : List Loc} {cells slots : Nat}
    (X : Stand p l e R s m args below meth c T locs cells slots) (hexec : p.tables.exec = Jvm.exec) {own text : String} {index : Nat} {a : Addr} (hown : s.vm.findClass own = some m.cls)
    (hconst : (Cond.stringRef own index text).before args s = true) (hev : (Term.string own index).eval args s none [] s = some (.ref a)) {g : JFrame} (hg : g.method = m) (hdg : decode c.code g.pc = .ok (.ldc_w index, 3)) :
    ∀ target, Steps p.tables e below (T.setTop { g with pc := g.pc + 3, stack := .ref a :: g.stack }) target → Steps p.tables e below (T.setTop g) target := by
  obtain ⟨k, cf, i, a', hk, hcf, hcp, -, hr, hev'⟩ := Cond.stringRef_spec hown hconst
  cases hev.symm.trans hev'
  obtain ⟨k', hk', he⟩ := X.warmed.alike.2.2 _ _ hk
  have hr' : k'.resolved[index]? = some (some (.string a)) := by
    rcases X.warmed.entry hk hk' index with h | ⟨h, -⟩
    · rw [h]; exact hr
    · rw [hr] at h; cases h
  intro target hrest
  subst hg
  jvm_step X.here [hexec, hdg, ldc_w.sem, ldc.wp_string (e := e) (s := T) (f := g) X.here.top hk' (by rw [he]; exact hcf) hcp hr']
  exact hrest
/-- a text by a wide index -/
theorem g_kstrW {T : s_T} {Φ : s_P} {pc : Nat} {lv : s_V} {st : List Value} {h : s_H} {n kc ks : Nat} {is i : Nat} {text : String} (hm : (T.1.cls, is, text, i) ∈ s_str) (hd : decode T.2.1 pc = .ok (.ldc_w is, 3))
    (k : s_G T Φ (pc + 3) lv (.ref (s_big + i) :: st) h n kc ks) : s_G T Φ pc lv st h n kc ks := by
  intro p l e R s m args below meth c X ad0 n0 A mc ms Qm C ad H locs cells slots ls S
  have hSP := (C.2.2.2.2.2.2.2.2.2.2.2.1).ag (S.2.2.1.big S.2.1)
  have hz := hSP.1.2.2.2 _ hm
  dsimp only at hz
  intro T9 hT X9
  obtain ⟨t, a, b⟩ := k p l e R s m args below meth c X ad0 n0 A mc ms Qm C ad H locs cells slots ls S T9 hT X9
  exact ⟨t, x_ldcw X9 C.1 C.2.2.2.2.1 (text := text) (a := ad (s_big + i)) hz.1 hz.2 (g := F0 m pc ls (st.map (s_rv ad))) rfl (by rw [C.2.1]; exact hd) _ a, b⟩
