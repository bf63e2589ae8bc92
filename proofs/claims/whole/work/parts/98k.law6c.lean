/-! THE LAW'S CASES 20 .. 29 (written by wip/src/law5.py) -/
theorem w_c20 {L t kc ks : Nat} {xs : Nat → Int32} (hL : L ≤ 3072) (ht : 6 * t + 6 ≤ L) (K : w_K L xs t kc ks) {h : s_H} {π : s_Pl} (q : w_St h π) : s_GL (s_Os L xs) TL_law w_Φ 1160 (s_lvs (w_lv t)) [] h 115 (kc + 2) (ks + 12) := by
  obtain ⟨hP, ⟨t0, hR⟩, ⟨f0, ho⟩, hby⟩ := q
  obtain ⟨cnt, cp, ok⟩ := hR.ok
  have hl := hR.l
  have hlen := hR.len
  have hb := hP.1
  unfold s_po at hb
  refine gl_aload_n dL_law_1160 rfl (by rfl) ?_
  refine gl_callV_e (c_X8_scriptErrorOffset hP (by omega)) dL_law_1161 (mX8_scriptErrorOffset) rfl lL_190 iX8_scriptErrorOffset vX8_scriptErrorOffset (by decide) (by omega) hb rfl rfl rfl rfl (Nat.le_of_ble_eq_true rfl) ?_
  obtain ⟨I9, hm⟩ := hR.hd
  refine gl_aload_n dL_law_1164 rfl (by rfl) ?_
  refine gl_callV_p (c_M_scriptErrorOffset hR (by omega)) dL_law_1165 (mX9_scriptErrorOffset) rfl lL_193 iX9_scriptErrorOffset vX9_scriptErrorOffset (by decide) (by omega) hm rfl rfl rfl rfl (Nat.le_of_ble_eq_true rfl) (fun v9 h2 z2 => ?_)
  have ho1 := ho
  have hP1 := hP
  obtain ⟨rfl, hR, qoff2⟩ := z2
  have ho := (qoff2 114 (by omega)).trans ho1
  have hP := hP1.off qoff2 (by omega)
  clear ho1 hP1
  refine gl_icmp_eq (tgt := 2583) dL_law_1168 (by decide) (fun _ => ?_) (fun c9 => absurd rfl c9)
  exact K.to ⟨hP, ⟨_, hR⟩, ⟨_, ho⟩, hby⟩ ⟨by rfl, by rfl, by rfl, by rfl, by rfl, trivial⟩ (by omega) (by omega)

theorem w_c21 {L t kc ks : Nat} {xs : Nat → Int32} (hL : L ≤ 3072) (ht : 6 * t + 6 ≤ L) (K : w_K L xs t kc ks) {h : s_H} {π : s_Pl} (q : w_St h π) : s_GL (s_Os L xs) TL_law w_Φ 1173 (s_lvs (w_lv t)) [] h 115 (kc + 2) (ks + 12) := by
  obtain ⟨hP, ⟨t0, hR⟩, ⟨f0, ho⟩, hby⟩ := q
  obtain ⟨cnt, cp, ok⟩ := hR.ok
  have hl := hR.l
  have hlen := hR.len
  have hb := hP.1
  unfold s_po at hb
  refine gl_aload_n dL_law_1173 rfl (by rfl) ?_
  refine gl_callV_e (c_X8_itemCount hP (by omega)) dL_law_1174 (mX8_itemCount) rfl lL_194 iX8_itemCount vX8_itemCount (by decide) (by omega) hb rfl rfl rfl rfl (Nat.le_of_ble_eq_true rfl) ?_
  obtain ⟨I9, hm⟩ := hR.hd
  refine gl_aload_n dL_law_1177 rfl (by rfl) ?_
  refine gl_callV_p (c_M_itemCount hR (by omega) ok) dL_law_1178 (mX9_itemCount) rfl lL_197 iX9_itemCount vX9_itemCount (by decide) (by omega) hm rfl rfl rfl rfl (Nat.le_of_ble_eq_true rfl) (fun v9 h2 z2 => ?_)
  have ho1 := ho
  have hP1 := hP
  obtain ⟨rfl, hR, qoff2⟩ := z2
  have ho := (qoff2 114 (by omega)).trans ho1
  have hP := hP1.off qoff2 (by omega)
  clear ho1 hP1
  refine gl_icmp_eq (tgt := 2583) dL_law_1181 (by decide) (fun _ => ?_) (fun c9 => absurd rfl c9)
  exact K.to ⟨hP, ⟨_, hR⟩, ⟨_, ho⟩, hby⟩ ⟨by rfl, by rfl, by rfl, by rfl, by rfl, trivial⟩ (by omega) (by omega)

theorem w_c22 {L t kc ks : Nat} {xs : Nat → Int32} (hL : L ≤ 3072) (ht : 6 * t + 6 ≤ L) (K : w_K L xs t kc ks) {h : s_H} {π : s_Pl} (q : w_St h π) : s_GL (s_Os L xs) TL_law w_Φ 1186 (s_lvs (w_lv t)) [] h 115 (kc + 2) (ks + 12) := by
  obtain ⟨hP, ⟨t0, hR⟩, ⟨f0, ho⟩, hby⟩ := q
  obtain ⟨cnt, cp, ok⟩ := hR.ok
  have hl := hR.l
  have hlen := hR.len
  have hb := hP.1
  unfold s_po at hb
  refine gl_aload_n dL_law_1186 rfl (by rfl) ?_
  refine gl_callV_e (c_X8_capacity hP (by omega)) dL_law_1187 (mX8_capacity) rfl lL_198 iX8_capacity vX8_capacity (by decide) (by omega) hb rfl rfl rfl rfl (Nat.le_of_ble_eq_true rfl) ?_
  obtain ⟨I9, hm⟩ := hR.hd
  refine gl_aload_n dL_law_1190 rfl (by rfl) ?_
  refine gl_callV_p (c_M_capacity hR (by omega) ok) dL_law_1191 (mX9_capacity) rfl lL_201 iX9_capacity vX9_capacity (by decide) (by omega) hm rfl rfl rfl rfl (Nat.le_of_ble_eq_true rfl) (fun v9 h2 z2 => ?_)
  have ho1 := ho
  have hP1 := hP
  obtain ⟨rfl, hR, qoff2⟩ := z2
  have ho := (qoff2 114 (by omega)).trans ho1
  have hP := hP1.off qoff2 (by omega)
  clear ho1 hP1
  refine gl_icmp_eq (tgt := 2583) dL_law_1194 (by decide) (fun _ => ?_) (fun c9 => absurd rfl c9)
  exact K.to ⟨hP, ⟨_, hR⟩, ⟨_, ho⟩, hby⟩ ⟨by rfl, by rfl, by rfl, by rfl, by rfl, trivial⟩ (by omega) (by omega)

theorem w_c23 {L t kc ks : Nat} {xs : Nat → Int32} (hL : L ≤ 3072) (ht : 6 * t + 6 ≤ L) (K : w_K L xs t kc ks) {h : s_H} {π : s_Pl} (q : w_St h π) : s_GL (s_Os L xs) TL_law w_Φ 1199 (s_lvs (w_lv t)) [] h 115 (kc + 2) (ks + 12) := by
  obtain ⟨hP, ⟨t0, hR⟩, ⟨f0, ho⟩, hby⟩ := q
  obtain ⟨cnt, cp, ok⟩ := hR.ok
  have hl := hR.l
  have hlen := hR.len
  have hb := hP.1
  unfold s_po at hb
  refine gl_aload_n dL_law_1199 rfl (by rfl) ?_
  refine gl_aload_n dL_law_1200 rfl (by rfl) ?_
  refine gl_iload dL_law_1201 (by rfl) ?_
  refine gl_iconst (nI 1) dL_law_1203 (by rfl) ?_
  refine gl_iadd dL_law_1204 ?_
  refine gl_sld hL dL_law_1205 (nI_add _ _) (by omega) ?_
  refine gl_aload_n dL_law_1206 rfl (by rfl) ?_
  refine gl_callSH (c_L_size hP (by omega) ho (by omega) (by omega) ok (xs (6 * t + 1))) dL_law_1207 (mL_size) rfl lL_202 sL_size (by decide) rfl rfl (Nat.le_of_ble_eq_true rfl) (by omega) (by omega) (fun v9 h1 z1 => ?_)
  obtain ⟨z1, qoff⟩ := z1
  obtain ⟨hm9, q1, q2⟩ := qoff.mid (by omega)
  have hR := (hR.off q1 (by omega)).off q2 (by omega)
  obtain ⟨I9, hm⟩ := hR.hd
  clear hP hb ho q1 q2 qoff
  rcases z1 with ⟨hc, rfl, hP, f1, ho, hv⟩ | ⟨hc, rfl, hP, f1, ho⟩
  · refine gl_istore dL_law_1210 (by decide) ?_
    refine gl_aload_n dL_law_1212 rfl (by rfl) ?_
    refine gl_aload_n dL_law_1213 rfl (by rfl) ?_
    refine gl_iload dL_law_1214 (by rfl) ?_
    refine gl_iconst (nI 1) dL_law_1216 (by rfl) ?_
    refine gl_iadd dL_law_1217 ?_
    refine gl_sld hL dL_law_1218 (nI_add _ _) (by omega) ?_
    refine gl_callV_p (c_M_size hR (by omega) ok (xs (6 * t + 1))) dL_law_1219 (mX9_size) rfl lL_204 iX9_size vX9_size (by decide) (by omega) hm rfl rfl rfl rfl (Nat.le_of_ble_eq_true rfl) (fun v8 h2 z2 => ?_)
    obtain ⟨z2, qoff2⟩ := z2
    have hP1 := hP.off qoff2 (by omega)
    have ho1 := (qoff2 114 (by omega)).trans ho
    clear hP ho
    have hP := hP1
    have ho := ho1
    clear hP1 ho1 hm
    rcases z2 with ⟨hd, rfl, hR⟩ | ⟨hd, ⟨z9, rfl⟩, hR⟩
    · obtain ⟨I8, hm⟩ := hR.hd
      refine gl_istore dL_law_1222 (by decide) ?_
      refine gl_aload_n dL_law_1224 rfl (by rfl) ?_
      refine gl_callV_e (c_M_thrown hR (by omega)) dL_law_1225 (mX9_thrown) rfl lL_124 iX9_thrown vX9_thrown (by decide) (by omega) hm rfl rfl rfl rfl (Nat.le_of_ble_eq_true rfl) ?_
      refine gl_iload dL_law_1228 (by rfl) ?_
      refine gl_icmp_eq (tgt := 1235) dL_law_1230 (by decide) (fun _ => ?_) (fun c9 => absurd rfl c9)
      refine gl_iload dL_law_1235 (by rfl) ?_
      refine gl_if_ne (tgt := 1252) dL_law_1237 (by decide) (fun c9 => absurd rfl c9) (fun _ => ?_)
      refine gl_aload_n dL_law_1240 rfl (by rfl) ?_
      refine gl_iconst (nI 0) dL_law_1241 (by rfl) ?_
      refine gl_lald dL_law_1242 (by exact ho) (by omega) (by rfl) (by omega) (by omega) ?_
      rw [hv]
      refine gl_iload dL_law_1243 (by rfl) ?_
      refine gl_i2l dL_law_1245 ?_
      refine gl_lcmp dL_law_1246 ?_
      refine gl_if_eq (tgt := 1252) dL_law_1247 (by decide) (fun _ => ?_) (fun c7 => absurd (w_lc _) c7)
      refine gl_goto (tgt := 2583) dL_law_1252 (by decide) ?_
      exact K.to ⟨hP, ⟨_, hR⟩, ⟨_, ho⟩, hby⟩ ⟨by rfl, by rfl, by rfl, by rfl, by rfl, trivial⟩ (by omega) (by omega)
    · (first | exact (hc hd).elim | exact (hd hc).elim)
  · refine gl_istore dL_law_1210 (by decide) ?_
    refine gl_aload_n dL_law_1212 rfl (by rfl) ?_
    refine gl_aload_n dL_law_1213 rfl (by rfl) ?_
    refine gl_iload dL_law_1214 (by rfl) ?_
    refine gl_iconst (nI 1) dL_law_1216 (by rfl) ?_
    refine gl_iadd dL_law_1217 ?_
    refine gl_sld hL dL_law_1218 (nI_add _ _) (by omega) ?_
    refine gl_callV_p (c_M_size hR (by omega) ok (xs (6 * t + 1))) dL_law_1219 (mX9_size) rfl lL_204 iX9_size vX9_size (by decide) (by omega) hm rfl rfl rfl rfl (Nat.le_of_ble_eq_true rfl) (fun v8 h2 z2 => ?_)
    obtain ⟨z2, qoff2⟩ := z2
    have hP1 := hP.off qoff2 (by omega)
    have ho1 := (qoff2 114 (by omega)).trans ho
    clear hP ho
    have hP := hP1
    have ho := ho1
    clear hP1 ho1 hm
    rcases z2 with ⟨hd, rfl, hR⟩ | ⟨hd, ⟨z9, rfl⟩, hR⟩
    · (first | exact (hc hd).elim | exact (hd hc).elim)
    · obtain ⟨I8, hm⟩ := hR.hd
      refine gl_istore dL_law_1222 (by decide) ?_
      refine gl_aload_n dL_law_1224 rfl (by rfl) ?_
      refine gl_callV_e (c_M_thrown hR (by omega)) dL_law_1225 (mX9_thrown) rfl lL_124 iX9_thrown vX9_thrown (by decide) (by omega) hm rfl rfl rfl rfl (Nat.le_of_ble_eq_true rfl) ?_
      refine gl_iload dL_law_1228 (by rfl) ?_
      refine gl_icmp_eq (tgt := 1235) dL_law_1230 (by decide) (fun _ => ?_) (fun c9 => absurd rfl c9)
      refine gl_iload dL_law_1235 (by rfl) ?_
      refine gl_if_ne (tgt := 1252) dL_law_1237 (by decide) (fun _ => ?_) (fun c9 => absurd c9 (by decide))
      refine gl_goto (tgt := 2583) dL_law_1252 (by decide) ?_
      exact K.to ⟨hP, ⟨_, hR⟩, ⟨_, ho⟩, hby⟩ ⟨by rfl, by rfl, by rfl, by rfl, by rfl, trivial⟩ (by omega) (by omega)

theorem w_c24 {L t kc ks : Nat} {xs : Nat → Int32} (hL : L ≤ 3072) (ht : 6 * t + 6 ≤ L) (K : w_K L xs t kc ks) {h : s_H} {π : s_Pl} (q : w_St h π) : s_GL (s_Os L xs) TL_law w_Φ 1255 (s_lvs (w_lv t)) [] h 115 (kc + 2) (ks + 12) := by
  obtain ⟨hP, ⟨t0, hR⟩, ⟨f0, ho⟩, hby⟩ := q
  obtain ⟨cnt, cp, ok⟩ := hR.ok
  have hl := hR.l
  have hlen := hR.len
  have hb := hP.1
  unfold s_po at hb
  refine gl_aload_n dL_law_1255 rfl (by rfl) ?_
  refine gl_aload_n dL_law_1256 rfl (by rfl) ?_
  refine gl_iload dL_law_1257 (by rfl) ?_
  refine gl_iconst (nI 1) dL_law_1259 (by rfl) ?_
  refine gl_iadd dL_law_1260 ?_
  refine gl_sld hL dL_law_1261 (nI_add _ _) (by omega) ?_
  refine gl_aload_n dL_law_1262 rfl (by rfl) ?_
  refine gl_callSH (c_L_value hP (by omega) ho (by omega) (by omega) ok (xs (6 * t + 1))) dL_law_1263 (mL_value) rfl lL_205 sL_value (by decide) rfl rfl (Nat.le_of_ble_eq_true rfl) (by omega) (by omega) (fun v9 h1 z1 => ?_)
  obtain ⟨z1, qoff⟩ := z1
  obtain ⟨hm9, q1, q2⟩ := qoff.mid (by omega)
  have hR := (hR.off q1 (by omega)).off q2 (by omega)
  obtain ⟨I9, hm⟩ := hR.hd
  clear hP hb ho q1 q2 qoff
  rcases z1 with ⟨hc, rfl, hP, f1, ho, hv⟩ | ⟨hc, rfl, hP, f1, ho⟩
  · refine gl_istore dL_law_1266 (by decide) ?_
    refine gl_aload_n dL_law_1268 rfl (by rfl) ?_
    refine gl_aload_n dL_law_1269 rfl (by rfl) ?_
    refine gl_iload dL_law_1270 (by rfl) ?_
    refine gl_iconst (nI 1) dL_law_1272 (by rfl) ?_
    refine gl_iadd dL_law_1273 ?_
    refine gl_sld hL dL_law_1274 (nI_add _ _) (by omega) ?_
    refine gl_callV_p (c_M_value hR (by omega) ok (xs (6 * t + 1))) dL_law_1275 (mX9_value) rfl lL_207 iX9_value vX9_value (by decide) (by omega) hm rfl rfl rfl rfl (Nat.le_of_ble_eq_true rfl) (fun v8 h2 z2 => ?_)
    obtain ⟨z2, qoff2⟩ := z2
    have hP1 := hP.off qoff2 (by omega)
    have ho1 := (qoff2 114 (by omega)).trans ho
    clear hP ho
    have hP := hP1
    have ho := ho1
    clear hP1 ho1 hm
    rcases z2 with ⟨hd, rfl, hR⟩ | ⟨hd, ⟨z9, rfl⟩, hR⟩
    · obtain ⟨I8, hm⟩ := hR.hd
      refine gl_istore dL_law_1278 (by decide) ?_
      refine gl_aload_n dL_law_1280 rfl (by rfl) ?_
      refine gl_callV_e (c_M_thrown hR (by omega)) dL_law_1281 (mX9_thrown) rfl lL_124 iX9_thrown vX9_thrown (by decide) (by omega) hm rfl rfl rfl rfl (Nat.le_of_ble_eq_true rfl) ?_
      refine gl_iload dL_law_1284 (by rfl) ?_
      refine gl_icmp_eq (tgt := 1291) dL_law_1286 (by decide) (fun _ => ?_) (fun c9 => absurd rfl c9)
      refine gl_iload dL_law_1291 (by rfl) ?_
      refine gl_if_ne (tgt := 1308) dL_law_1293 (by decide) (fun c9 => absurd rfl c9) (fun _ => ?_)
      refine gl_aload_n dL_law_1296 rfl (by rfl) ?_
      refine gl_iconst (nI 0) dL_law_1297 (by rfl) ?_
      refine gl_lald dL_law_1298 (by exact ho) (by omega) (by rfl) (by omega) (by omega) ?_
      rw [hv]
      refine gl_iload dL_law_1299 (by rfl) ?_
      refine gl_i2l dL_law_1301 ?_
      refine gl_lcmp dL_law_1302 ?_
      refine gl_if_eq (tgt := 1308) dL_law_1303 (by decide) (fun _ => ?_) (fun c7 => absurd (w_lc _) c7)
      refine gl_goto (tgt := 2583) dL_law_1308 (by decide) ?_
      exact K.to ⟨hP, ⟨_, hR⟩, ⟨_, ho⟩, hby⟩ ⟨by rfl, by rfl, by rfl, by rfl, by rfl, trivial⟩ (by omega) (by omega)
    · (first | exact (hc hd).elim | exact (hd hc).elim)
  · refine gl_istore dL_law_1266 (by decide) ?_
    refine gl_aload_n dL_law_1268 rfl (by rfl) ?_
    refine gl_aload_n dL_law_1269 rfl (by rfl) ?_
    refine gl_iload dL_law_1270 (by rfl) ?_
    refine gl_iconst (nI 1) dL_law_1272 (by rfl) ?_
    refine gl_iadd dL_law_1273 ?_
    refine gl_sld hL dL_law_1274 (nI_add _ _) (by omega) ?_
    refine gl_callV_p (c_M_value hR (by omega) ok (xs (6 * t + 1))) dL_law_1275 (mX9_value) rfl lL_207 iX9_value vX9_value (by decide) (by omega) hm rfl rfl rfl rfl (Nat.le_of_ble_eq_true rfl) (fun v8 h2 z2 => ?_)
    obtain ⟨z2, qoff2⟩ := z2
    have hP1 := hP.off qoff2 (by omega)
    have ho1 := (qoff2 114 (by omega)).trans ho
    clear hP ho
    have hP := hP1
    have ho := ho1
    clear hP1 ho1 hm
    rcases z2 with ⟨hd, rfl, hR⟩ | ⟨hd, ⟨z9, rfl⟩, hR⟩
    · (first | exact (hc hd).elim | exact (hd hc).elim)
    · obtain ⟨I8, hm⟩ := hR.hd
      refine gl_istore dL_law_1278 (by decide) ?_
      refine gl_aload_n dL_law_1280 rfl (by rfl) ?_
      refine gl_callV_e (c_M_thrown hR (by omega)) dL_law_1281 (mX9_thrown) rfl lL_124 iX9_thrown vX9_thrown (by decide) (by omega) hm rfl rfl rfl rfl (Nat.le_of_ble_eq_true rfl) ?_
      refine gl_iload dL_law_1284 (by rfl) ?_
      refine gl_icmp_eq (tgt := 1291) dL_law_1286 (by decide) (fun _ => ?_) (fun c9 => absurd rfl c9)
      refine gl_iload dL_law_1291 (by rfl) ?_
      refine gl_if_ne (tgt := 1308) dL_law_1293 (by decide) (fun _ => ?_) (fun c9 => absurd c9 (by decide))
      refine gl_goto (tgt := 2583) dL_law_1308 (by decide) ?_
      exact K.to ⟨hP, ⟨_, hR⟩, ⟨_, ho⟩, hby⟩ ⟨by rfl, by rfl, by rfl, by rfl, by rfl, trivial⟩ (by omega) (by omega)

theorem w_c25 {L t kc ks : Nat} {xs : Nat → Int32} (hL : L ≤ 3072) (ht : 6 * t + 6 ≤ L) (K : w_K L xs t kc ks) {h : s_H} {π : s_Pl} (q : w_St h π) : s_GL (s_Os L xs) TL_law w_Φ 1311 (s_lvs (w_lv t)) [] h 115 (kc + 2) (ks + 12) := by
  obtain ⟨hP, ⟨t0, hR⟩, ⟨f0, ho⟩, hby⟩ := q
  obtain ⟨cnt, cp, ok⟩ := hR.ok
  have hl := hR.l
  have hlen := hR.len
  have hb := hP.1
  unfold s_po at hb
  refine gl_aload_n dL_law_1311 rfl (by rfl) ?_
  refine gl_aload_n dL_law_1312 rfl (by rfl) ?_
  refine gl_iload dL_law_1313 (by rfl) ?_
  refine gl_iconst (nI 1) dL_law_1315 (by rfl) ?_
  refine gl_iadd dL_law_1316 ?_
  refine gl_sld hL dL_law_1317 (nI_add _ _) (by omega) ?_
  refine gl_aload_n dL_law_1318 rfl (by rfl) ?_
  refine gl_callSH (c_L_age hP (by omega) ho (by omega) (by omega) ok (xs (6 * t + 1))) dL_law_1319 (mL_age) rfl lL_208 sL_age (by decide) rfl rfl (Nat.le_of_ble_eq_true rfl) (by omega) (by omega) (fun v9 h1 z1 => ?_)
  obtain ⟨z1, qoff⟩ := z1
  obtain ⟨hm9, q1, q2⟩ := qoff.mid (by omega)
  have hR := (hR.off q1 (by omega)).off q2 (by omega)
  obtain ⟨I9, hm⟩ := hR.hd
  clear hP hb ho q1 q2 qoff
  rcases z1 with ⟨hc, rfl, hP, f1, ho, hv⟩ | ⟨hc, rfl, hP, f1, ho⟩
  · refine gl_istore dL_law_1322 (by decide) ?_
    refine gl_aload_n dL_law_1324 rfl (by rfl) ?_
    refine gl_aload_n dL_law_1325 rfl (by rfl) ?_
    refine gl_iload dL_law_1326 (by rfl) ?_
    refine gl_iconst (nI 1) dL_law_1328 (by rfl) ?_
    refine gl_iadd dL_law_1329 ?_
    refine gl_sld hL dL_law_1330 (nI_add _ _) (by omega) ?_
    refine gl_callV_p (c_M_age hR (by omega) ok (xs (6 * t + 1))) dL_law_1331 (mX9_age) rfl lL_210 iX9_age vX9_age (by decide) (by omega) hm rfl rfl rfl rfl (Nat.le_of_ble_eq_true rfl) (fun v8 h2 z2 => ?_)
    obtain ⟨z2, qoff2⟩ := z2
    have hP1 := hP.off qoff2 (by omega)
    have ho1 := (qoff2 114 (by omega)).trans ho
    clear hP ho
    have hP := hP1
    have ho := ho1
    clear hP1 ho1 hm
    rcases z2 with ⟨hd, rfl, hR⟩ | ⟨hd, ⟨z9, rfl⟩, hR⟩
    · obtain ⟨I8, hm⟩ := hR.hd
      refine gl_istore dL_law_1334 (by decide) ?_
      refine gl_aload_n dL_law_1336 rfl (by rfl) ?_
      refine gl_callV_e (c_M_thrown hR (by omega)) dL_law_1337 (mX9_thrown) rfl lL_124 iX9_thrown vX9_thrown (by decide) (by omega) hm rfl rfl rfl rfl (Nat.le_of_ble_eq_true rfl) ?_
      refine gl_iload dL_law_1340 (by rfl) ?_
      refine gl_icmp_eq (tgt := 1347) dL_law_1342 (by decide) (fun _ => ?_) (fun c9 => absurd rfl c9)
      refine gl_iload dL_law_1347 (by rfl) ?_
      refine gl_if_ne (tgt := 1364) dL_law_1349 (by decide) (fun c9 => absurd rfl c9) (fun _ => ?_)
      refine gl_aload_n dL_law_1352 rfl (by rfl) ?_
      refine gl_iconst (nI 0) dL_law_1353 (by rfl) ?_
      refine gl_lald dL_law_1354 (by exact ho) (by omega) (by rfl) (by omega) (by omega) ?_
      rw [hv]
      refine gl_iload dL_law_1355 (by rfl) ?_
      refine gl_i2l dL_law_1357 ?_
      refine gl_lcmp dL_law_1358 ?_
      refine gl_if_eq (tgt := 1364) dL_law_1359 (by decide) (fun _ => ?_) (fun c7 => absurd (w_lc _) c7)
      refine gl_goto (tgt := 2583) dL_law_1364 (by decide) ?_
      exact K.to ⟨hP, ⟨_, hR⟩, ⟨_, ho⟩, hby⟩ ⟨by rfl, by rfl, by rfl, by rfl, by rfl, trivial⟩ (by omega) (by omega)
    · (first | exact (hc hd).elim | exact (hd hc).elim)
  · refine gl_istore dL_law_1322 (by decide) ?_
    refine gl_aload_n dL_law_1324 rfl (by rfl) ?_
    refine gl_aload_n dL_law_1325 rfl (by rfl) ?_
    refine gl_iload dL_law_1326 (by rfl) ?_
    refine gl_iconst (nI 1) dL_law_1328 (by rfl) ?_
    refine gl_iadd dL_law_1329 ?_
    refine gl_sld hL dL_law_1330 (nI_add _ _) (by omega) ?_
    refine gl_callV_p (c_M_age hR (by omega) ok (xs (6 * t + 1))) dL_law_1331 (mX9_age) rfl lL_210 iX9_age vX9_age (by decide) (by omega) hm rfl rfl rfl rfl (Nat.le_of_ble_eq_true rfl) (fun v8 h2 z2 => ?_)
    obtain ⟨z2, qoff2⟩ := z2
    have hP1 := hP.off qoff2 (by omega)
    have ho1 := (qoff2 114 (by omega)).trans ho
    clear hP ho
    have hP := hP1
    have ho := ho1
    clear hP1 ho1 hm
    rcases z2 with ⟨hd, rfl, hR⟩ | ⟨hd, ⟨z9, rfl⟩, hR⟩
    · (first | exact (hc hd).elim | exact (hd hc).elim)
    · obtain ⟨I8, hm⟩ := hR.hd
      refine gl_istore dL_law_1334 (by decide) ?_
      refine gl_aload_n dL_law_1336 rfl (by rfl) ?_
      refine gl_callV_e (c_M_thrown hR (by omega)) dL_law_1337 (mX9_thrown) rfl lL_124 iX9_thrown vX9_thrown (by decide) (by omega) hm rfl rfl rfl rfl (Nat.le_of_ble_eq_true rfl) ?_
      refine gl_iload dL_law_1340 (by rfl) ?_
      refine gl_icmp_eq (tgt := 1347) dL_law_1342 (by decide) (fun _ => ?_) (fun c9 => absurd rfl c9)
      refine gl_iload dL_law_1347 (by rfl) ?_
      refine gl_if_ne (tgt := 1364) dL_law_1349 (by decide) (fun _ => ?_) (fun c9 => absurd c9 (by decide))
      refine gl_goto (tgt := 2583) dL_law_1364 (by decide) ?_
      exact K.to ⟨hP, ⟨_, hR⟩, ⟨_, ho⟩, hby⟩ ⟨by rfl, by rfl, by rfl, by rfl, by rfl, trivial⟩ (by omega) (by omega)

theorem w_c26 {L t kc ks : Nat} {xs : Nat → Int32} (hL : L ≤ 3072) (ht : 6 * t + 6 ≤ L) (K : w_K L xs t kc ks) {h : s_H} {π : s_Pl} (q : w_St h π) : s_GL (s_Os L xs) TL_law w_Φ 1367 (s_lvs (w_lv t)) [] h 115 (kc + 2) (ks + 12) := by
  obtain ⟨hP, ⟨t0, hR⟩, ⟨f0, ho⟩, hby⟩ := q
  obtain ⟨cnt, cp, ok⟩ := hR.ok
  have hl := hR.l
  have hlen := hR.len
  have hb := hP.1
  unfold s_po at hb
  refine gl_aload_n dL_law_1367 rfl (by rfl) ?_
  refine gl_aload_n dL_law_1368 rfl (by rfl) ?_
  refine gl_iload dL_law_1369 (by rfl) ?_
  refine gl_iconst (nI 1) dL_law_1371 (by rfl) ?_
  refine gl_iadd dL_law_1372 ?_
  refine gl_sld hL dL_law_1373 (nI_add _ _) (by omega) ?_
  refine gl_aload_n dL_law_1374 rfl (by rfl) ?_
  refine gl_callSH (c_L_state hP (by omega) ho (by omega) (by omega) ok (xs (6 * t + 1))) dL_law_1375 (mL_state) rfl lL_211 sL_state (by decide) rfl rfl (Nat.le_of_ble_eq_true rfl) (by omega) (by omega) (fun v9 h1 z1 => ?_)
  obtain ⟨z1, qoff⟩ := z1
  obtain ⟨hm9, q1, q2⟩ := qoff.mid (by omega)
  have hR := (hR.off q1 (by omega)).off q2 (by omega)
  obtain ⟨I9, hm⟩ := hR.hd
  clear hP hb ho q1 q2 qoff
  rcases z1 with ⟨hc, rfl, hP, f1, ho, hv⟩ | ⟨hc, rfl, hP, f1, ho⟩
  · refine gl_istore dL_law_1378 (by decide) ?_
    refine gl_aload_n dL_law_1380 rfl (by rfl) ?_
    refine gl_aload_n dL_law_1381 rfl (by rfl) ?_
    refine gl_iload dL_law_1382 (by rfl) ?_
    refine gl_iconst (nI 1) dL_law_1384 (by rfl) ?_
    refine gl_iadd dL_law_1385 ?_
    refine gl_sld hL dL_law_1386 (nI_add _ _) (by omega) ?_
    refine gl_callV_p (c_M_state hR (by omega) ok (xs (6 * t + 1))) dL_law_1387 (mX9_state) rfl lL_213 iX9_state vX9_state (by decide) (by omega) hm rfl rfl rfl rfl (Nat.le_of_ble_eq_true rfl) (fun v8 h2 z2 => ?_)
    obtain ⟨z2, qoff2⟩ := z2
    have hP1 := hP.off qoff2 (by omega)
    have ho1 := (qoff2 114 (by omega)).trans ho
    clear hP ho
    have hP := hP1
    have ho := ho1
    clear hP1 ho1 hm
    rcases z2 with ⟨hd, rfl, hR⟩ | ⟨hd, ⟨z9, rfl⟩, hR⟩
    · obtain ⟨I8, hm⟩ := hR.hd
      refine gl_istore dL_law_1390 (by decide) ?_
      refine gl_aload_n dL_law_1392 rfl (by rfl) ?_
      refine gl_callV_e (c_M_thrown hR (by omega)) dL_law_1393 (mX9_thrown) rfl lL_124 iX9_thrown vX9_thrown (by decide) (by omega) hm rfl rfl rfl rfl (Nat.le_of_ble_eq_true rfl) ?_
      refine gl_iload dL_law_1396 (by rfl) ?_
      refine gl_icmp_eq (tgt := 1403) dL_law_1398 (by decide) (fun _ => ?_) (fun c9 => absurd rfl c9)
      refine gl_iload dL_law_1403 (by rfl) ?_
      refine gl_if_ne (tgt := 1420) dL_law_1405 (by decide) (fun c9 => absurd rfl c9) (fun _ => ?_)
      refine gl_aload_n dL_law_1408 rfl (by rfl) ?_
      refine gl_iconst (nI 0) dL_law_1409 (by rfl) ?_
      refine gl_lald dL_law_1410 (by exact ho) (by omega) (by rfl) (by omega) (by omega) ?_
      rw [hv]
      refine gl_iload dL_law_1411 (by rfl) ?_
      refine gl_i2l dL_law_1413 ?_
      refine gl_lcmp dL_law_1414 ?_
      refine gl_if_eq (tgt := 1420) dL_law_1415 (by decide) (fun _ => ?_) (fun c7 => absurd (w_lc _) c7)
      refine gl_goto (tgt := 2583) dL_law_1420 (by decide) ?_
      exact K.to ⟨hP, ⟨_, hR⟩, ⟨_, ho⟩, hby⟩ ⟨by rfl, by rfl, by rfl, by rfl, by rfl, trivial⟩ (by omega) (by omega)
    · (first | exact (hc hd).elim | exact (hd hc).elim)
  · refine gl_istore dL_law_1378 (by decide) ?_
    refine gl_aload_n dL_law_1380 rfl (by rfl) ?_
    refine gl_aload_n dL_law_1381 rfl (by rfl) ?_
    refine gl_iload dL_law_1382 (by rfl) ?_
    refine gl_iconst (nI 1) dL_law_1384 (by rfl) ?_
    refine gl_iadd dL_law_1385 ?_
    refine gl_sld hL dL_law_1386 (nI_add _ _) (by omega) ?_
    refine gl_callV_p (c_M_state hR (by omega) ok (xs (6 * t + 1))) dL_law_1387 (mX9_state) rfl lL_213 iX9_state vX9_state (by decide) (by omega) hm rfl rfl rfl rfl (Nat.le_of_ble_eq_true rfl) (fun v8 h2 z2 => ?_)
    obtain ⟨z2, qoff2⟩ := z2
    have hP1 := hP.off qoff2 (by omega)
    have ho1 := (qoff2 114 (by omega)).trans ho
    clear hP ho
    have hP := hP1
    have ho := ho1
    clear hP1 ho1 hm
    rcases z2 with ⟨hd, rfl, hR⟩ | ⟨hd, ⟨z9, rfl⟩, hR⟩
    · (first | exact (hc hd).elim | exact (hd hc).elim)
    · obtain ⟨I8, hm⟩ := hR.hd
      refine gl_istore dL_law_1390 (by decide) ?_
      refine gl_aload_n dL_law_1392 rfl (by rfl) ?_
      refine gl_callV_e (c_M_thrown hR (by omega)) dL_law_1393 (mX9_thrown) rfl lL_124 iX9_thrown vX9_thrown (by decide) (by omega) hm rfl rfl rfl rfl (Nat.le_of_ble_eq_true rfl) ?_
      refine gl_iload dL_law_1396 (by rfl) ?_
      refine gl_icmp_eq (tgt := 1403) dL_law_1398 (by decide) (fun _ => ?_) (fun c9 => absurd rfl c9)
      refine gl_iload dL_law_1403 (by rfl) ?_
      refine gl_if_ne (tgt := 1420) dL_law_1405 (by decide) (fun _ => ?_) (fun c9 => absurd c9 (by decide))
      refine gl_goto (tgt := 2583) dL_law_1420 (by decide) ?_
      exact K.to ⟨hP, ⟨_, hR⟩, ⟨_, ho⟩, hby⟩ ⟨by rfl, by rfl, by rfl, by rfl, by rfl, trivial⟩ (by omega) (by omega)

theorem w_c27 {L t kc ks : Nat} {xs : Nat → Int32} (hL : L ≤ 3072) (ht : 6 * t + 6 ≤ L) (K : w_K L xs t kc ks) {h : s_H} {π : s_Pl} (q : w_St h π) : s_GL (s_Os L xs) TL_law w_Φ 1423 (s_lvs (w_lv t)) [] h 115 (kc + 2) (ks + 12) := by
  obtain ⟨hP, ⟨t0, hR⟩, ⟨f0, ho⟩, hby⟩ := q
  obtain ⟨cnt, cp, ok⟩ := hR.ok
  have hl := hR.l
  have hlen := hR.len
  have hb := hP.1
  unfold s_po at hb
  refine gl_aload_n dL_law_1423 rfl (by rfl) ?_
  refine gl_aload_n dL_law_1424 rfl (by rfl) ?_
  refine gl_iload dL_law_1425 (by rfl) ?_
  refine gl_iconst (nI 1) dL_law_1427 (by rfl) ?_
  refine gl_iadd dL_law_1428 ?_
  refine gl_sld hL dL_law_1429 (nI_add _ _) (by omega) ?_
  refine gl_aload_n dL_law_1430 rfl (by rfl) ?_
  refine gl_callSH (c_L_weight hP (by omega) ho (by omega) (by omega) ok (xs (6 * t + 1))) dL_law_1431 (mL_weight) rfl lL_214 sL_weight (by decide) rfl rfl (Nat.le_of_ble_eq_true rfl) (by omega) (by omega) (fun v9 h1 z1 => ?_)
  obtain ⟨z1, qoff⟩ := z1
  obtain ⟨hm9, q1, q2⟩ := qoff.mid (by omega)
  have hR := (hR.off q1 (by omega)).off q2 (by omega)
  obtain ⟨I9, hm⟩ := hR.hd
  clear hP hb ho q1 q2 qoff
  rcases z1 with ⟨hc, rfl, hP, f1, ho, hv⟩ | ⟨hc, rfl, hP, f1, ho⟩
  · refine gl_istore dL_law_1434 (by decide) ?_
    refine gl_aload_n dL_law_1436 rfl (by rfl) ?_
    refine gl_aload_n dL_law_1437 rfl (by rfl) ?_
    refine gl_iload dL_law_1438 (by rfl) ?_
    refine gl_iconst (nI 1) dL_law_1440 (by rfl) ?_
    refine gl_iadd dL_law_1441 ?_
    refine gl_sld hL dL_law_1442 (nI_add _ _) (by omega) ?_
    refine gl_callV_p (c_M_weight hR (by omega) ok (xs (6 * t + 1))) dL_law_1443 (mX9_weight) rfl lL_216 iX9_weight vX9_weight (by decide) (by omega) hm rfl rfl rfl rfl (Nat.le_of_ble_eq_true rfl) (fun v8 h2 z2 => ?_)
    obtain ⟨z2, qoff2⟩ := z2
    have hP1 := hP.off qoff2 (by omega)
    have ho1 := (qoff2 114 (by omega)).trans ho
    clear hP ho
    have hP := hP1
    have ho := ho1
    clear hP1 ho1 hm
    rcases z2 with ⟨hd, rfl, hR⟩ | ⟨hd, ⟨z9, rfl⟩, hR⟩
    · obtain ⟨I8, hm⟩ := hR.hd
      refine gl_istore dL_law_1446 (by decide) ?_
      refine gl_aload_n dL_law_1448 rfl (by rfl) ?_
      refine gl_callV_e (c_M_thrown hR (by omega)) dL_law_1449 (mX9_thrown) rfl lL_124 iX9_thrown vX9_thrown (by decide) (by omega) hm rfl rfl rfl rfl (Nat.le_of_ble_eq_true rfl) ?_
      refine gl_iload dL_law_1452 (by rfl) ?_
      refine gl_icmp_eq (tgt := 1459) dL_law_1454 (by decide) (fun _ => ?_) (fun c9 => absurd rfl c9)
      refine gl_iload dL_law_1459 (by rfl) ?_
      refine gl_if_ne (tgt := 1476) dL_law_1461 (by decide) (fun c9 => absurd rfl c9) (fun _ => ?_)
      refine gl_aload_n dL_law_1464 rfl (by rfl) ?_
      refine gl_iconst (nI 0) dL_law_1465 (by rfl) ?_
      refine gl_lald dL_law_1466 (by exact ho) (by omega) (by rfl) (by omega) (by omega) ?_
      rw [hv]
      refine gl_iload dL_law_1467 (by rfl) ?_
      refine gl_i2l dL_law_1469 ?_
      refine gl_lcmp dL_law_1470 ?_
      refine gl_if_eq (tgt := 1476) dL_law_1471 (by decide) (fun _ => ?_) (fun c7 => absurd (w_lc _) c7)
      refine gl_goto (tgt := 2583) dL_law_1476 (by decide) ?_
      exact K.to ⟨hP, ⟨_, hR⟩, ⟨_, ho⟩, hby⟩ ⟨by rfl, by rfl, by rfl, by rfl, by rfl, trivial⟩ (by omega) (by omega)
    · (first | exact (hc hd).elim | exact (hd hc).elim)
  · refine gl_istore dL_law_1434 (by decide) ?_
    refine gl_aload_n dL_law_1436 rfl (by rfl) ?_
    refine gl_aload_n dL_law_1437 rfl (by rfl) ?_
    refine gl_iload dL_law_1438 (by rfl) ?_
    refine gl_iconst (nI 1) dL_law_1440 (by rfl) ?_
    refine gl_iadd dL_law_1441 ?_
    refine gl_sld hL dL_law_1442 (nI_add _ _) (by omega) ?_
    refine gl_callV_p (c_M_weight hR (by omega) ok (xs (6 * t + 1))) dL_law_1443 (mX9_weight) rfl lL_216 iX9_weight vX9_weight (by decide) (by omega) hm rfl rfl rfl rfl (Nat.le_of_ble_eq_true rfl) (fun v8 h2 z2 => ?_)
    obtain ⟨z2, qoff2⟩ := z2
    have hP1 := hP.off qoff2 (by omega)
    have ho1 := (qoff2 114 (by omega)).trans ho
    clear hP ho
    have hP := hP1
    have ho := ho1
    clear hP1 ho1 hm
    rcases z2 with ⟨hd, rfl, hR⟩ | ⟨hd, ⟨z9, rfl⟩, hR⟩
    · (first | exact (hc hd).elim | exact (hd hc).elim)
    · obtain ⟨I8, hm⟩ := hR.hd
      refine gl_istore dL_law_1446 (by decide) ?_
      refine gl_aload_n dL_law_1448 rfl (by rfl) ?_
      refine gl_callV_e (c_M_thrown hR (by omega)) dL_law_1449 (mX9_thrown) rfl lL_124 iX9_thrown vX9_thrown (by decide) (by omega) hm rfl rfl rfl rfl (Nat.le_of_ble_eq_true rfl) ?_
      refine gl_iload dL_law_1452 (by rfl) ?_
      refine gl_icmp_eq (tgt := 1459) dL_law_1454 (by decide) (fun _ => ?_) (fun c9 => absurd rfl c9)
      refine gl_iload dL_law_1459 (by rfl) ?_
      refine gl_if_ne (tgt := 1476) dL_law_1461 (by decide) (fun _ => ?_) (fun c9 => absurd c9 (by decide))
      refine gl_goto (tgt := 2583) dL_law_1476 (by decide) ?_
      exact K.to ⟨hP, ⟨_, hR⟩, ⟨_, ho⟩, hby⟩ ⟨by rfl, by rfl, by rfl, by rfl, by rfl, trivial⟩ (by omega) (by omega)

theorem w_c28 {L t kc ks : Nat} {xs : Nat → Int32} (hL : L ≤ 3072) (ht : 6 * t + 6 ≤ L) (K : w_K L xs t kc ks) {h : s_H} {π : s_Pl} (q : w_St h π) : s_GL (s_Os L xs) TL_law w_Φ 1479 (s_lvs (w_lv t)) [] h 115 (kc + 2) (ks + 12) := by
  obtain ⟨hP, ⟨t0, hR⟩, ⟨f0, ho⟩, hby⟩ := q
  obtain ⟨cnt, cp, ok⟩ := hR.ok
  have hl := hR.l
  have hlen := hR.len
  have hb := hP.1
  unfold s_po at hb
  refine gl_aload_n dL_law_1479 rfl (by rfl) ?_
  refine gl_callV_e (c_X8_pinnedItems hP (by omega) ok) dL_law_1480 (mX8_pinnedItems) rfl lL_217 iX8_pinnedItems vX8_pinnedItems (by decide) (by omega) hb rfl rfl rfl rfl (Nat.le_of_ble_eq_true rfl) ?_
  obtain ⟨I9, hm⟩ := hR.hd
  refine gl_aload_n dL_law_1483 rfl (by rfl) ?_
  refine gl_callV_p (c_M_pinnedItems hR (by omega) ok) dL_law_1484 (mX9_pinnedItems) rfl lL_220 iX9_pinnedItems vX9_pinnedItems (by decide) (by omega) hm rfl rfl rfl rfl (Nat.le_of_ble_eq_true rfl) (fun v9 h2 z2 => ?_)
  have ho1 := ho
  have hP1 := hP
  obtain ⟨rfl, hR, qoff2⟩ := z2
  have ho := (qoff2 114 (by omega)).trans ho1
  have hP := hP1.off qoff2 (by omega)
  clear ho1 hP1
  refine gl_icmp_eq (tgt := 2583) dL_law_1487 (by decide) (fun _ => ?_) (fun c9 => absurd rfl c9)
  exact K.to ⟨hP, ⟨_, hR⟩, ⟨_, ho⟩, hby⟩ ⟨by rfl, by rfl, by rfl, by rfl, by rfl, trivial⟩ (by omega) (by omega)

theorem w_c29 {L t kc ks : Nat} {xs : Nat → Int32} (hL : L ≤ 3072) (ht : 6 * t + 6 ≤ L) (K : w_K L xs t kc ks) {h : s_H} {π : s_Pl} (q : w_St h π) : s_GL (s_Os L xs) TL_law w_Φ 1492 (s_lvs (w_lv t)) [] h 115 (kc + 2) (ks + 12) := by
  obtain ⟨hP, ⟨t0, hR⟩, ⟨f0, ho⟩, hby⟩ := q
  obtain ⟨cnt, cp, ok⟩ := hR.ok
  have hl := hR.l
  have hlen := hR.len
  have hb := hP.1
  unfold s_po at hb
  refine gl_aload_n dL_law_1492 rfl (by rfl) ?_
  refine gl_callV_e (c_X8_pinnedSize hP (by omega) ok) dL_law_1493 (mX8_pinnedSize) rfl lL_221 iX8_pinnedSize vX8_pinnedSize (by decide) (by omega) hb rfl rfl rfl rfl (Nat.le_of_ble_eq_true rfl) ?_
  obtain ⟨I9, hm⟩ := hR.hd
  refine gl_aload_n dL_law_1496 rfl (by rfl) ?_
  refine gl_callV_p (c_M_pinnedSize hR (by omega) ok) dL_law_1497 (mX9_pinnedSize) rfl lL_224 iX9_pinnedSize vX9_pinnedSize (by decide) (by omega) hm rfl rfl rfl rfl (Nat.le_of_ble_eq_true rfl) (fun v9 h2 z2 => ?_)
  have ho1 := ho
  have hP1 := hP
  obtain ⟨rfl, hR, qoff2⟩ := z2
  have ho := (qoff2 114 (by omega)).trans ho1
  have hP := hP1.off qoff2 (by omega)
  clear ho1 hP1
  refine gl_icmp_eq (tgt := 2583) dL_law_1500 (by decide) (fun _ => ?_) (fun c9 => absurd rfl c9)
  exact K.to ⟨hP, ⟨_, hR⟩, ⟨_, ho⟩, hby⟩ ⟨by rfl, by rfl, by rfl, by rfl, by rfl, trivial⟩ (by omega) (by omega)
