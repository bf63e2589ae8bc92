/-! THE LAW: act (written by wip/p67/law5.py) -/
theorem c_act_148 {h : s_H} {n b L k : Nat} (hI : w_In h b L) (hn : b + 93 ≤ n) (u it sz va : Int32) : s_G TL_act (s_rp n (fun r h1 => r = none ∧ w_In h1 b L) s_no) 148 (s_lvs [(0, .ref b), (1, .ref (s_big + 500)), (2, .int (nI k)), (3, .int u), (4, .int it), (5, .int sz), (6, .int va)]) [] h n 14 84 := by
  obtain ⟨π, cnt, cp, hP, ok, hl, hL⟩ := hI
  have h14 := ok.2.1
  have hb := hP.1
  unfold s_po at hb
  refine g_aload_n dL_act_148 rfl (by rfl) ?_
  refine g_iload dL_act_149 (by rfl) ?_
  refine g_iload dL_act_151 (by rfl) ?_
  refine g_callSH (rest := []) (c_L_addItem hP hn ok hl hL sz va) dL_act_153 mL_addItem rfl lL_155 sL_addItem (by decide) rfl rfl (Nat.le_of_ble_eq_true rfl) (by omega) (by omega) s_rp.same (fun E h' z => z.2) (fun v9 h9 z9 => ?_)
  obtain ⟨-, ⟨x9, z1⟩, hI⟩ := z9
  cases z1
  refine g_pop dL_act_156 (by rfl) ?_
  refine g_goto (tgt := 302) dL_act_157 (by decide) ?_
  refine g_vreturn dL_act_302 rfl ?_
  exact ⟨rfl, rfl, hI⟩
theorem c_act_160 {h : s_H} {n b L k : Nat} (hI : w_In h b L) (hn : b + 93 ≤ n) (u it sz va : Int32) : s_G TL_act (s_rp n (fun r h1 => r = none ∧ w_In h1 b L) s_no) 160 (s_lvs [(0, .ref b), (1, .ref (s_big + 500)), (2, .int (nI k)), (3, .int u), (4, .int it), (5, .int sz), (6, .int va)]) [] h n 14 84 := by
  obtain ⟨π, cnt, cp, hP, ok, hl, hL⟩ := hI
  have h14 := ok.2.1
  have hb := hP.1
  unfold s_po at hb
  refine g_aload_n dL_act_160 rfl (by rfl) ?_
  refine g_iload dL_act_161 (by rfl) ?_
  refine g_callSH (rest := []) (c_L_removeItem hP hn ok hl hL it) dL_act_163 mL_removeItem rfl lL_158 sL_removeItem (by decide) rfl rfl (Nat.le_of_ble_eq_true rfl) (by omega) (by omega) s_rp.same (fun E h' z => z.2) (fun v9 h9 z9 => ?_)
  obtain ⟨-, ⟨x9, z1⟩, hI⟩ := z9
  cases z1
  refine g_pop dL_act_166 (by rfl) ?_
  refine g_goto (tgt := 302) dL_act_167 (by decide) ?_
  refine g_vreturn dL_act_302 rfl ?_
  exact ⟨rfl, rfl, hI⟩
theorem c_act_170 {h : s_H} {n b L k : Nat} (hI : w_In h b L) (hn : b + 93 ≤ n) (u it sz va : Int32) : s_G TL_act (s_rp n (fun r h1 => r = none ∧ w_In h1 b L) s_no) 170 (s_lvs [(0, .ref b), (1, .ref (s_big + 500)), (2, .int (nI k)), (3, .int u), (4, .int it), (5, .int sz), (6, .int va)]) [] h n 14 84 := by
  obtain ⟨π, cnt, cp, hP, ok, hl, hL⟩ := hI
  have h14 := ok.2.1
  have hb := hP.1
  unfold s_po at hb
  refine g_aload_n dL_act_170 rfl (by rfl) ?_
  refine g_iload dL_act_171 (by rfl) ?_
  refine g_iload dL_act_173 (by rfl) ?_
  refine g_callSH (rest := []) (c_L_setSize hP hn ok hl hL it sz) dL_act_175 mL_setSize rfl lL_161 sL_setSize (by decide) rfl rfl (Nat.le_of_ble_eq_true rfl) (by omega) (by omega) s_rp.same (fun E h' z => z.2) (fun v9 h9 z9 => ?_)
  obtain ⟨-, ⟨x9, z1⟩, hI⟩ := z9
  cases z1
  refine g_pop dL_act_178 (by rfl) ?_
  refine g_goto (tgt := 302) dL_act_179 (by decide) ?_
  refine g_vreturn dL_act_302 rfl ?_
  exact ⟨rfl, rfl, hI⟩
theorem c_act_182 {h : s_H} {n b L k : Nat} (hI : w_In h b L) (hn : b + 93 ≤ n) (u it sz va : Int32) : s_G TL_act (s_rp n (fun r h1 => r = none ∧ w_In h1 b L) s_no) 182 (s_lvs [(0, .ref b), (1, .ref (s_big + 500)), (2, .int (nI k)), (3, .int u), (4, .int it), (5, .int sz), (6, .int va)]) [] h n 14 84 := by
  obtain ⟨π, cnt, cp, hP, ok, hl, hL⟩ := hI
  have h14 := ok.2.1
  have hb := hP.1
  unfold s_po at hb
  refine g_aload_n dL_act_182 rfl (by rfl) ?_
  refine g_iload dL_act_183 (by rfl) ?_
  refine g_iload dL_act_185 (by rfl) ?_
  refine g_callSH (rest := []) (c_L_setValue hP hn ok hl hL it va) dL_act_187 mL_setValue rfl lL_163 sL_setValue (by decide) rfl rfl (Nat.le_of_ble_eq_true rfl) (by omega) (by omega) s_rp.same (fun E h' z => z.2) (fun v9 h9 z9 => ?_)
  obtain ⟨-, ⟨x9, z1⟩, hI⟩ := z9
  cases z1
  refine g_pop dL_act_190 (by rfl) ?_
  refine g_goto (tgt := 302) dL_act_191 (by decide) ?_
  refine g_vreturn dL_act_302 rfl ?_
  exact ⟨rfl, rfl, hI⟩
theorem c_act_194 {h : s_H} {n b L k : Nat} (hI : w_In h b L) (hn : b + 93 ≤ n) (u it sz va : Int32) : s_G TL_act (s_rp n (fun r h1 => r = none ∧ w_In h1 b L) s_no) 194 (s_lvs [(0, .ref b), (1, .ref (s_big + 500)), (2, .int (nI k)), (3, .int u), (4, .int it), (5, .int sz), (6, .int va)]) [] h n 14 84 := by
  obtain ⟨π, cnt, cp, hP, ok, hl, hL⟩ := hI
  have h14 := ok.2.1
  have hb := hP.1
  unfold s_po at hb
  refine g_aload_n dL_act_194 rfl (by rfl) ?_
  refine g_iload dL_act_195 (by rfl) ?_
  refine g_callSH (rest := []) (c_L_pin hP hn ok hl hL it) dL_act_197 mL_pin rfl lL_165 sL_pin (by decide) rfl rfl (Nat.le_of_ble_eq_true rfl) (by omega) (by omega) s_rp.same (fun E h' z => z.2) (fun v9 h9 z9 => ?_)
  obtain ⟨-, ⟨x9, z1⟩, hI⟩ := z9
  cases z1
  refine g_pop dL_act_200 (by rfl) ?_
  refine g_goto (tgt := 302) dL_act_201 (by decide) ?_
  refine g_vreturn dL_act_302 rfl ?_
  exact ⟨rfl, rfl, hI⟩
theorem c_act_204 {h : s_H} {n b L k : Nat} (hI : w_In h b L) (hn : b + 93 ≤ n) (u it sz va : Int32) : s_G TL_act (s_rp n (fun r h1 => r = none ∧ w_In h1 b L) s_no) 204 (s_lvs [(0, .ref b), (1, .ref (s_big + 500)), (2, .int (nI k)), (3, .int u), (4, .int it), (5, .int sz), (6, .int va)]) [] h n 14 84 := by
  obtain ⟨π, cnt, cp, hP, ok, hl, hL⟩ := hI
  have h14 := ok.2.1
  have hb := hP.1
  unfold s_po at hb
  refine g_aload_n dL_act_204 rfl (by rfl) ?_
  refine g_iload dL_act_205 (by rfl) ?_
  refine g_callSH (rest := []) (c_L_exclude hP hn ok hl hL it) dL_act_207 mL_exclude rfl lL_167 sL_exclude (by decide) rfl rfl (Nat.le_of_ble_eq_true rfl) (by omega) (by omega) s_rp.same (fun E h' z => z.2) (fun v9 h9 z9 => ?_)
  obtain ⟨-, ⟨x9, z1⟩, hI⟩ := z9
  cases z1
  refine g_pop dL_act_210 (by rfl) ?_
  refine g_goto (tgt := 302) dL_act_211 (by decide) ?_
  refine g_vreturn dL_act_302 rfl ?_
  exact ⟨rfl, rfl, hI⟩
theorem c_act_214 {h : s_H} {n b L k : Nat} (hI : w_In h b L) (hn : b + 93 ≤ n) (u it sz va : Int32) : s_G TL_act (s_rp n (fun r h1 => r = none ∧ w_In h1 b L) s_no) 214 (s_lvs [(0, .ref b), (1, .ref (s_big + 500)), (2, .int (nI k)), (3, .int u), (4, .int it), (5, .int sz), (6, .int va)]) [] h n 14 84 := by
  obtain ⟨π, cnt, cp, hP, ok, hl, hL⟩ := hI
  have h14 := ok.2.1
  have hb := hP.1
  unfold s_po at hb
  refine g_aload_n dL_act_214 rfl (by rfl) ?_
  refine g_iload dL_act_215 (by rfl) ?_
  refine g_callSH (rest := []) (c_L_release hP hn ok hl hL it) dL_act_217 mL_release rfl lL_169 sL_release (by decide) rfl rfl (Nat.le_of_ble_eq_true rfl) (by omega) (by omega) s_rp.same (fun E h' z => z.2) (fun v9 h9 z9 => ?_)
  obtain ⟨-, ⟨x9, z1⟩, hI⟩ := z9
  cases z1
  refine g_pop dL_act_220 (by rfl) ?_
  refine g_goto (tgt := 302) dL_act_221 (by decide) ?_
  refine g_vreturn dL_act_302 rfl ?_
  exact ⟨rfl, rfl, hI⟩
theorem c_act_224 {h : s_H} {n b L k : Nat} (hI : w_In h b L) (hn : b + 93 ≤ n) (u it sz va : Int32) : s_G TL_act (s_rp n (fun r h1 => r = none ∧ w_In h1 b L) s_no) 224 (s_lvs [(0, .ref b), (1, .ref (s_big + 500)), (2, .int (nI k)), (3, .int u), (4, .int it), (5, .int sz), (6, .int va)]) [] h n 14 84 := by
  obtain ⟨π, cnt, cp, hP, ok, hl, hL⟩ := hI
  have h14 := ok.2.1
  have hb := hP.1
  unfold s_po at hb
  refine g_aload_n dL_act_224 rfl (by rfl) ?_
  refine g_iload_n dL_act_225 rfl (by rfl) ?_
  refine g_bipush 16 dL_act_226 (by rfl) ?_
  refine g_idiv dL_act_228 (by decide) ?_
  refine g_bipush 101 dL_act_229 (by rfl) ?_
  refine g_irem dL_act_231 (by decide) ?_
  refine g_callSH (rest := []) (c_L_setCapacity hP hn ok hl hL _) dL_act_232 mL_setCapacity rfl lL_171 sL_setCapacity (by decide) rfl rfl (Nat.le_of_ble_eq_true rfl) (by omega) (by omega) s_rp.same (fun E h' z => z.2) (fun v9 h9 z9 => ?_)
  obtain ⟨-, ⟨x9, z1⟩, hI⟩ := z9
  cases z1
  refine g_pop dL_act_235 (by rfl) ?_
  refine g_goto (tgt := 302) dL_act_236 (by decide) ?_
  refine g_vreturn dL_act_302 rfl ?_
  exact ⟨rfl, rfl, hI⟩
theorem c_act_239 {h : s_H} {n b L k : Nat} (hI : w_In h b L) (hn : b + 93 ≤ n) (u it sz va : Int32) : s_G TL_act (s_rp n (fun r h1 => r = none ∧ w_In h1 b L) s_no) 239 (s_lvs [(0, .ref b), (1, .ref (s_big + 500)), (2, .int (nI k)), (3, .int u), (4, .int it), (5, .int sz), (6, .int va)]) [] h n 14 84 := by
  obtain ⟨π, cnt, cp, hP, ok, hl, hL⟩ := hI
  have h14 := ok.2.1
  have hb := hP.1
  unfold s_po at hb
  refine g_aload_n dL_act_239 rfl (by rfl) ?_
  refine g_callV_p (c_X8_runBackup hP hn ok hl) dL_act_240 (mX8_runBackup) rfl lL_173 iX8_runBackup vX8_runBackup (by decide) (by omega) (by exact hb) rfl rfl rfl rfl (Nat.le_of_ble_eq_true rfl) (fun v9 h9 z9 => ?_)
  obtain ⟨rfl, hP, -⟩ := z9
  refine g_pop dL_act_243 (by rfl) ?_
  refine g_goto (tgt := 302) dL_act_244 (by decide) ?_
  refine g_vreturn dL_act_302 rfl ?_
  exact ⟨rfl, rfl, _, cnt, cp, hP, ok.bk _, pl_rem_l hl, hL⟩
theorem c_act_247 {h : s_H} {n b L k : Nat} (hI : w_In h b L) (hn : b + 93 ≤ n) (u it sz va : Int32) : s_G TL_act (s_rp n (fun r h1 => r = none ∧ w_In h1 b L) s_no) 247 (s_lvs [(0, .ref b), (1, .ref (s_big + 500)), (2, .int (nI k)), (3, .int u), (4, .int it), (5, .int sz), (6, .int va)]) [] h n 14 84 := by
  obtain ⟨π, cnt, cp, hP, ok, hl, hL⟩ := hI
  have h14 := ok.2.1
  have hb := hP.1
  unfold s_po at hb
  refine g_aload_n dL_act_247 rfl (by rfl) ?_
  refine g_iconst 1 dL_act_248 (by rfl) ?_
  refine g_iload_n dL_act_249 rfl (by rfl) ?_
  refine g_bipush 16 dL_act_250 (by rfl) ?_
  refine g_idiv dL_act_252 (by decide) ?_
  refine g_iconst 5 dL_act_253 (by rfl) ?_
  refine g_irem dL_act_254 (by decide) ?_
  refine g_iadd dL_act_255 ?_
  refine g_callSH (rest := []) (c_Lg_runBackups hP hn ok hl hL _) dL_act_256 mL_runBackups rfl lL_176 sL_runBackups (by decide) rfl rfl (Nat.le_of_ble_eq_true rfl) (by omega) (by omega) s_rp.same (fun E h' z => z.2) (fun v9 h9 z9 => ?_)
  obtain ⟨-, ⟨x9, z1⟩, hI⟩ := z9
  cases z1
  refine g_pop dL_act_259 (by rfl) ?_
  refine g_goto (tgt := 302) dL_act_260 (by decide) ?_
  refine g_vreturn dL_act_302 rfl ?_
  exact ⟨rfl, rfl, hI⟩
theorem c_act_263 {h : s_H} {n b L k : Nat} (hI : w_In h b L) (hn : b + 93 ≤ n) (u it sz va : Int32) : s_G TL_act (s_rp n (fun r h1 => r = none ∧ w_In h1 b L) s_no) 263 (s_lvs [(0, .ref b), (1, .ref (s_big + 500)), (2, .int (nI k)), (3, .int u), (4, .int it), (5, .int sz), (6, .int va)]) [] h n 14 84 := by
  have loop : ∀ r i h, w_In h b L → i + r = 14 → s_G TL_act (s_rp n (fun r h1 => r = none ∧ w_In h1 b L) s_no) 280 (s_lvs [(0, .ref b), (1, .ref (s_big + 500)), (2, .int (nI k)), (3, .int u), (4, .int it), (5, .int sz), (6, .int va), (7, .int (nI (i)))]) [] h n r (6 * r) := by
    intro r
    induction r with
    | zero =>
      intro i h hI hi
      have hI9 := hI
      obtain ⟨π, cnt, cp, hP, ok, hl, hL⟩ := hI9
      have h14 := ok.2.1
      have hb := hP.1
      unfold s_po at hb
      refine g_iload dL_act_280 (by rfl) ?_
      refine g_aload_n dL_act_282 rfl (by rfl) ?_
      refine g_callV_e (c_X8_itemCount hP hn) dL_act_283 (mX8_itemCount) rfl lL_149 iX8_itemCount vX8_itemCount (by decide) (by omega) (by exact hb) rfl rfl rfl rfl (Nat.le_of_ble_eq_true rfl) ?_
      rw [ok.1]
      refine g_icmp_ge (tgt := 302) dL_act_286 (by decide) (fun _ => ?_) (fun c_286 => absurd (i_ge (by omega) (by omega)) c_286)
      refine g_vreturn dL_act_302 rfl ?_
      exact ⟨rfl, rfl, hI⟩
    | succ r ih =>
      intro i h hI hi
      have hI9 := hI
      obtain ⟨π, cnt, cp, hP, ok, hl, hL⟩ := hI9
      have h14 := ok.2.1
      have hb := hP.1
      unfold s_po at hb
      refine g_iload dL_act_280 (by rfl) ?_
      refine g_aload_n dL_act_282 rfl (by rfl) ?_
      refine g_callV_e (c_X8_itemCount hP hn) dL_act_283 (mX8_itemCount) rfl lL_149 iX8_itemCount vX8_itemCount (by decide) (by omega) (by exact hb) rfl rfl rfl rfl (Nat.le_of_ble_eq_true rfl) ?_
      rw [ok.1]
      refine g_icmp_ge (tgt := 302) dL_act_286 (by decide) (fun c_286 => ?_) (fun c_286 => ?_)
      · refine g_vreturn dL_act_302 rfl ?_
        exact ⟨rfl, rfl, hI⟩
      · refine g_aload_n dL_act_289 rfl (by rfl) ?_
        refine g_iload dL_act_290 (by rfl) ?_
        refine g_callSH (rest := []) (c_L_release hP hn ok hl hL (nI i)) dL_act_292 mL_release rfl lL_169 sL_release (by decide) rfl rfl (Nat.le_of_ble_eq_true rfl) (by omega) (by omega) s_rp.same (fun E h' z => z.2) (fun v9 h9 z9 => ?_)
        obtain ⟨-, ⟨x9, z1⟩, hI⟩ := z9
        cases z1
        refine g_pop dL_act_295 (by rfl) ?_
        refine g_iinc (nI (i + 1)) dL_act_296 (by rfl) (nI_inc i) ?_
        refine g_goto (tgt := 280) dL_act_299 (by decide) ?_
        exact g_sub (g_lv (l := [(0, .ref b), (1, .ref (s_big + 500)), (2, .int (nI k)), (3, .int u), (4, .int it), (5, .int sz), (6, .int va), (7, .int (nI (i + 1)))]) (ih (i + 1) _ hI (by omega)) ⟨by rfl, by rfl, by rfl, by rfl, by rfl, by rfl, by rfl, by rfl, trivial⟩) (fun _ _ z => z) (by omega) (by omega)
  have hI0 := hI
  obtain ⟨π, cnt, cp, hP, ok, hl, hL⟩ := hI
  have h14 := ok.2.1
  have hb := hP.1
  unfold s_po at hb
  refine g_iload_n dL_act_263 rfl (by rfl) ?_
  refine g_iconst 3 dL_act_264 (by rfl) ?_
  refine g_irem dL_act_265 (by decide) ?_
  refine g_if_ne (tgt := 277) dL_act_266 (by decide) (fun c_266 => ?_) (fun c_266 => ?_)
  · refine g_iconst 0 dL_act_277 (by rfl) ?_
    refine g_istore dL_act_278 (by decide) ?_
    exact g_sub (g_lv (l := [(0, .ref b), (1, .ref (s_big + 500)), (2, .int (nI k)), (3, .int u), (4, .int it), (5, .int sz), (6, .int va), (7, .int (nI (0)))]) (loop 14 0 _ hI0 (by omega)) ⟨by rfl, by rfl, by rfl, by rfl, by rfl, by rfl, by rfl, by rfl, trivial⟩) (fun _ _ z => z) (by omega) (by omega)
  · refine g_aload_n dL_act_269 rfl (by rfl) ?_
    refine g_callSH (rest := []) (c_L_pinBest hP hn ok hl hL ) dL_act_270 mL_pinBest rfl lL_178 sL_pinBest (by decide) rfl rfl (Nat.le_of_ble_eq_true rfl) (by omega) (by omega) s_rp.same (fun E h' z => z.2) (fun v9 h9 z9 => ?_)
    obtain ⟨-, ⟨x9, z1⟩, hI⟩ := z9
    cases z1
    refine g_pop dL_act_273 (by rfl) ?_
    refine g_goto (tgt := 302) dL_act_274 (by decide) ?_
    refine g_vreturn dL_act_302 rfl ?_
    exact ⟨rfl, rfl, hI⟩
theorem c_act_67 {h : s_H} {n b L k : Nat} (hI : w_In h b L) (hn : b + 93 ≤ n) (u it sz va : Int32) (hk : k < 1000) : s_G TL_act (s_rp n (fun r h1 => r = none ∧ w_In h1 b L) s_no) 67 (s_lvs [(0, .ref b), (1, .ref (s_big + 500)), (2, .int (nI k)), (3, .int u), (4, .int it), (5, .int sz), (6, .int va)]) [] h n 14 84 := by
  refine g_aload_n dL_act_67 rfl (by rfl) ?_
  refine g_iload_n dL_act_68 rfl (by rfl) ?_
  refine g_iconst 0 dL_act_69 (by rfl) ?_
  refine g_bipush 16 dL_act_70 (by rfl) ?_
  refine g_callS_p (c_L_of hk (Or.inl rfl)) dL_act_72 mL_of rfl lL_120 sL_of (by decide) rfl rfl (Nat.le_of_ble_eq_true rfl) (fun v9 h9 z9 => ?_)
  obtain ⟨e9, j, hj, rfl⟩ := z9
  obtain rfl := e9.symm
  have hj9 : j = 0 ∨ j = 1 ∨ j = 2 ∨ j = 3 ∨ j = 4 ∨ j = 5 ∨ j = 6 ∨ j = 7 ∨ j = 8 ∨ j = 9 ∨ j = 10 ∨ j = 11 ∨ j = 12 ∨ j = 13 ∨ j = 14 ∨ j = 15 := by omega
  rcases hj9 with rfl | rfl | rfl | rfl | rfl | rfl | rfl | rfl | rfl | rfl | rfl | rfl | rfl | rfl | rfl | rfl
  · exact g_tabIn (tgt := 148) dL_act_75 (by decide) (by decide) rfl (by rfl) (c_act_148 hI hn u it sz va)
  · exact g_tabIn (tgt := 148) dL_act_75 (by decide) (by decide) rfl (by rfl) (c_act_148 hI hn u it sz va)
  · exact g_tabIn (tgt := 148) dL_act_75 (by decide) (by decide) rfl (by rfl) (c_act_148 hI hn u it sz va)
  · exact g_tabIn (tgt := 148) dL_act_75 (by decide) (by decide) rfl (by rfl) (c_act_148 hI hn u it sz va)
  · exact g_tabIn (tgt := 148) dL_act_75 (by decide) (by decide) rfl (by rfl) (c_act_148 hI hn u it sz va)
  · exact g_tabIn (tgt := 160) dL_act_75 (by decide) (by decide) rfl (by rfl) (c_act_160 hI hn u it sz va)
  · exact g_tabIn (tgt := 170) dL_act_75 (by decide) (by decide) rfl (by rfl) (c_act_170 hI hn u it sz va)
  · exact g_tabIn (tgt := 182) dL_act_75 (by decide) (by decide) rfl (by rfl) (c_act_182 hI hn u it sz va)
  · exact g_tabIn (tgt := 194) dL_act_75 (by decide) (by decide) rfl (by rfl) (c_act_194 hI hn u it sz va)
  · exact g_tabIn (tgt := 204) dL_act_75 (by decide) (by decide) rfl (by rfl) (c_act_204 hI hn u it sz va)
  · exact g_tabIn (tgt := 214) dL_act_75 (by decide) (by decide) rfl (by rfl) (c_act_214 hI hn u it sz va)
  · exact g_tabIn (tgt := 224) dL_act_75 (by decide) (by decide) rfl (by rfl) (c_act_224 hI hn u it sz va)
  · exact g_tabIn (tgt := 224) dL_act_75 (by decide) (by decide) rfl (by rfl) (c_act_224 hI hn u it sz va)
  · exact g_tabIn (tgt := 239) dL_act_75 (by decide) (by decide) rfl (by rfl) (c_act_239 hI hn u it sz va)
  · exact g_tabIn (tgt := 247) dL_act_75 (by decide) (by decide) rfl (by rfl) (c_act_247 hI hn u it sz va)
  · exact g_tabOut (tgt := 263) dL_act_75 (Or.inr (by decide)) (by rfl) (c_act_263 hI hn u it sz va)
theorem c_act_45 {h : s_H} {n b L k : Nat} (hI : w_In h b L) (hn : b + 93 ≤ n) (u it sz : Int32) (hk : k < 1000) : s_G TL_act (s_rp n (fun r h1 => r = none ∧ w_In h1 b L) s_no) 45 (s_lvs [(0, .ref b), (1, .ref (s_big + 500)), (2, .int (nI k)), (3, .int u), (4, .int it), (5, .int sz)]) [] h n 14 84 := by
  refine g_iload_n dL_act_45 rfl (by rfl) ?_
  refine g_sipush 1024 dL_act_46 (by rfl) ?_
  refine g_idiv dL_act_49 (by decide) ?_
  refine g_iload_n dL_act_50 rfl (by rfl) ?_
  refine g_iconst 4 dL_act_51 (by rfl) ?_
  refine g_irem dL_act_52 (by decide) ?_
  refine g_if_ne (tgt := 62) dL_act_53 (by decide) (fun c_53 => ?_) (fun c_53 => ?_)
  · refine g_bipush 8 dL_act_62 (by rfl) ?_
    refine g_irem dL_act_64 (by decide) ?_
    refine g_istore dL_act_65 (by decide) ?_
    exact g_lv (l := [(0, .ref b), (1, .ref (s_big + 500)), (2, .int (nI k)), (3, .int u), (4, .int it), (5, .int sz), (6, _)]) (c_act_67 hI hn u it sz _ hk) ⟨by rfl, by rfl, by rfl, by rfl, by rfl, by rfl, by rfl, trivial⟩
  · refine g_sipush 1000 dL_act_56 (by rfl) ?_
    refine g_goto (tgt := 64) dL_act_59 (by decide) ?_
    refine g_irem dL_act_64 (by decide) ?_
    refine g_istore dL_act_65 (by decide) ?_
    exact g_lv (l := [(0, .ref b), (1, .ref (s_big + 500)), (2, .int (nI k)), (3, .int u), (4, .int it), (5, .int sz), (6, _)]) (c_act_67 hI hn u it sz _ hk) ⟨by rfl, by rfl, by rfl, by rfl, by rfl, by rfl, by rfl, trivial⟩
theorem c_act_23 {h : s_H} {n b L k : Nat} (hI : w_In h b L) (hn : b + 93 ≤ n) (u it : Int32) (hk : k < 1000) : s_G TL_act (s_rp n (fun r h1 => r = none ∧ w_In h1 b L) s_no) 23 (s_lvs [(0, .ref b), (1, .ref (s_big + 500)), (2, .int (nI k)), (3, .int u), (4, .int it)]) [] h n 14 84 := by
  refine g_iconst 1 dL_act_23 (by rfl) ?_
  refine g_iload_n dL_act_24 rfl (by rfl) ?_
  refine g_bipush 16 dL_act_25 (by rfl) ?_
  refine g_idiv dL_act_27 (by decide) ?_
  refine g_iload_n dL_act_28 rfl (by rfl) ?_
  refine g_iconst 3 dL_act_29 (by rfl) ?_
  refine g_irem dL_act_30 (by decide) ?_
  refine g_if_ne (tgt := 39) dL_act_31 (by decide) (fun c_31 => ?_) (fun c_31 => ?_)
  · refine g_bipush 15 dL_act_39 (by rfl) ?_
    refine g_irem dL_act_41 (by decide) ?_
    refine g_iadd dL_act_42 ?_
    refine g_istore dL_act_43 (by decide) ?_
    exact g_lv (l := [(0, .ref b), (1, .ref (s_big + 500)), (2, .int (nI k)), (3, .int u), (4, .int it), (5, _)]) (c_act_45 hI hn u it _ hk) ⟨by rfl, by rfl, by rfl, by rfl, by rfl, by rfl, trivial⟩
  · refine g_bipush 60 dL_act_34 (by rfl) ?_
    refine g_goto (tgt := 41) dL_act_36 (by decide) ?_
    refine g_irem dL_act_41 (by decide) ?_
    refine g_iadd dL_act_42 ?_
    refine g_istore dL_act_43 (by decide) ?_
    exact g_lv (l := [(0, .ref b), (1, .ref (s_big + 500)), (2, .int (nI k)), (3, .int u), (4, .int it), (5, _)]) (c_act_45 hI hn u it _ hk) ⟨by rfl, by rfl, by rfl, by rfl, by rfl, by rfl, trivial⟩
theorem i_mx (x : Int32) : ¬ (if (1 : Int32) < x then x else 1) = 0 := by
  by_cases h : (1 : Int32) < x
  · rw [if_pos h]
    intro z
    rw [z] at h
    exact absurd h (by decide)
  · rw [if_neg h]
    decide
theorem c_L_act {h : s_H} {n b L k : Nat} (hI : w_In h b L) (hn : b + 93 ≤ n) (hk : k + 1 < 1000) : s_Mt TL_act 14 84 [.ref b, .ref (s_big + 500), .int (nI k)] h n (s_rp n (fun r h1 => r = none ∧ w_In h1 b L) s_no) := by
  have hI0 := hI
  have hk : k < 1000 := by omega
  obtain ⟨π, cnt, cp, hP, ok, hl, hL⟩ := hI
  have h14 := ok.2.1
  have hb := hP.1
  unfold s_po at hb
  refine s_Mt_of rfl (by decide) (by exact Nat.le_of_ble_eq_true rfl) ?_
  refine g_aload_n dL_act_0 rfl (by rfl) ?_
  refine g_iload_n dL_act_1 rfl (by rfl) ?_
  refine g_iconst 1 dL_act_2 (by rfl) ?_
  refine g_iadd dL_act_3 ?_
  rw [show (1 : Int32) = nI 1 from rfl, nI_add']
  refine g_callS_p (c_L_cell (by omega)) dL_act_4 mL_cell rfl lL_7 sL_cell (by decide) rfl rfl (Nat.le_of_ble_eq_true rfl) (fun v9 h9 z9 => ?_)
  obtain ⟨e9, x, rfl⟩ := z9
  obtain rfl := e9.symm
  refine g_ldc dL_act_7 kL_148 ?_
  refine g_iand dL_act_9 ?_
  refine g_istore_n dL_act_10 rfl (by decide) ?_
  refine g_iload_n dL_act_11 rfl (by rfl) ?_
  refine g_iconst 1 dL_act_12 (by rfl) ?_
  refine g_aload_n dL_act_13 rfl (by rfl) ?_
  refine g_callV_e (c_X8_itemCount hP hn) dL_act_14 (mX8_itemCount) rfl lL_149 iX8_itemCount vX8_itemCount (by decide) (by omega) (by exact hb) rfl rfl rfl rfl (Nat.le_of_ble_eq_true rfl) ?_
  refine g_callS_e (c_max _ _) dL_act_17 mJ9_max_7cf53 rfl lL_152 sJ9_max_7cf53 (by decide) rfl rfl (Nat.le_of_ble_eq_true rfl) ?_
  refine g_irem dL_act_20 (i_mx _) ?_
  refine g_istore dL_act_21 (by decide) ?_
  exact g_lv (l := [(0, .ref b), (1, .ref (s_big + 500)), (2, .int (nI k)), (3, _), (4, _)]) (c_act_23 hI0 hn _ _ hk) ⟨by rfl, by rfl, by rfl, by rfl, by rfl, trivial⟩
