/-! F4: the law: the cases of its loop -/
/-- both mills between two calls of the law -/
def LW (g : Gl) (c m lg SA ST WY : Nat) (po : Nat → Nat) (hB h : Hp) : Prop :=
  ∃ (ow sp us uz : Nat → Nat) (u : Mu) (X : Sg) (ws : List (Option Mw)), MV g h ow c lg SA ST WY po sp X us uz ∧ MI X ∧ SI X ∧ MK h m ∧ h = mh h m u ∧ MR u X ws ∧ TgW h ow m ∧ Lg hB (fun _ => 0) (fun _ => 0) X00 h us uz X
section LF4
variable {g : Gl} {c m lg SA ST WY i : Nat} {po : Nat → Nat} {hB h : Hp} {Q : Option Value → Hp → Prop} {u : Mu} {X : Sg} {ws : List (Option Mw)}
theorem MK.mh (hm : MK h m) : MK (mh h m u) m := hm
theorem TgW.mh {ow : Nat → Nat} (ht : TgW h ow m) : TgW (mh h m u) ow m := ht
theorem Lg.mh {us uz us' uz' : Nat → Nat} {X' : Sg} (a : Lg hB us uz X h us' uz' X') : Lg hB us uz X (mh h m u) us' uz' X' := a
theorem lw_bd (hI : MI X) (hS : SI X) (hR : MR u X ws) : tot entS X ≤ 48000 ∧ (xR X).length < 200000 ∧ ws.length < 48100 ∧ xM X ≤ 16 ∧ (∀ s ky w es, some (s, ky, w, es) ∈ ws → es.length ≤ 12000) ∧ (∀ j, j < xM X → isW (xS X j) = true → sm vN (gL (xS X j)) < 100000) := by
  have hc : tot camS X ≤ 12000 := by
    have h1 := hI.2.2.1
    have h2 := hI.2.2.2.1
    omega
  have hE : tot entS X ≤ 48000 := by
    have := tot_ent hI
    omega
  refine ⟨hE, ?_, mw_n hR.2.2 hE, hI.1.1, mr_len hR.2.2 hS hc, fun j hj hw => ?_⟩
  · have := hI.2.1.2
    omega
  · have h1 := fb_sm_part (fun s => entS (xS X s)) hj
    have h2 : entS (xS X j) = sm vN (gL (xS X j)) := by
      unfold entS
      rw [if_pos hw]
    unfold tot at hE
    have h3 : entS (xS X j) ≤ fb_sm (fun s => entS (xS X s)) (xM X) := by omega
    omega
theorem lc_0 (hi : i + 6 ≤ scL g) (hL : scL g ≤ 3072) (hw : LW g c m lg SA ST WY po hB h) (next : ∀ h', LW g c m lg SA ST WY po hB h' → V g mL_law 100 716 [.ref (scB g), .ref c, .ref m, .int (nI i)] [] h' Q) : V g mL_law 100 120 [.ref (scB g), .ref c, .ref m, .int (nI i)] [] h Q := by
  obtain ⟨ow, sp, us, uz, u, X, ws, hM, hI, hS, hm, eH, hR, hT, hl⟩ := hw
  refine v_ald1 (q := 121) dL_law_120 rfl rfl ?_
  refine v_ald0 (q := 122) dL_law_121 rfl rfl ?_
  refine v_ild3 (q := 123) dL_law_122 rfl ?_
  refine v_iconst (q := 124) (v := 1) dL_law_123 rfl (by decide) ?_
  refine v_iadd (q := 125) dL_law_124 rfl ?_
  refine v_sld (q := 126) (i + 1) dL_law_125 rfl (nI_add i 1) (by omega) (by omega) ?_
  refine v_ald0 (q := 127) dL_law_126 rfl rfl ?_
  refine v_ild3 (q := 128) dL_law_127 rfl ?_
  refine v_iconst (q := 129) (v := 2) dL_law_128 rfl (by decide) ?_
  refine v_iadd (q := 130) dL_law_129 rfl ?_
  refine v_sld (q := 131) (i + 2) dL_law_130 rfl (nI_add i 2) (by omega) (by omega) ?_
  refine v_ald0 (q := 132) dL_law_131 rfl rfl ?_
  refine v_ild3 (q := 133) dL_law_132 rfl ?_
  refine v_iconst (q := 134) (v := 3) dL_law_133 rfl (by decide) ?_
  refine v_iadd (q := 135) dL_law_134 rfl ?_
  refine v_sld (q := 136) (i + 3) dL_law_135 rfl (nI_add i 3) (by omega) (by omega) ?_
  refine v_callV (q := 139) (d' := 94 + 5) (av := [.int (scX g (i + 1)), .int (scX g (i + 2)), .int (scX g (i + 3))]) dL_law_136 rfl ok_X9_stage CL8 ml_L_13 imL_X9_stage seL_X9_stage hM.1.1 (by omega) rfl rfl (Nat.le_of_ble_eq_true rfl) ?_
  refine k_stage (d := 94) hM hI (fun h1 ow1 us1 uz1 sp1 hM1 hI1 f1 l1 => ?_)
  obtain ⟨hm1, e1, hT1⟩ := mo_keep f1 hm eH hT
  show V g mL_law 100 139 [.ref (scB g), .ref c, .ref m, .int (nI i)] [.int _] h1 Q
  rw [e1]
  refine v_ald2 (q := 140) dL_law_139 rfl rfl ?_
  refine v_ald0 (q := 141) dL_law_140 rfl rfl ?_
  refine v_ild3 (q := 142) dL_law_141 rfl ?_
  refine v_iconst (q := 143) (v := 1) dL_law_142 rfl (by decide) ?_
  refine v_iadd (q := 144) dL_law_143 rfl ?_
  refine v_sld (q := 145) (i + 1) dL_law_144 rfl (nI_add i 1) (by omega) (by omega) ?_
  refine v_ald0 (q := 146) dL_law_145 rfl rfl ?_
  refine v_ild3 (q := 147) dL_law_146 rfl ?_
  refine v_iconst (q := 148) (v := 2) dL_law_147 rfl (by decide) ?_
  refine v_iadd (q := 149) dL_law_148 rfl ?_
  refine v_sld (q := 150) (i + 2) dL_law_149 rfl (nI_add i 2) (by omega) (by omega) ?_
  refine v_ald0 (q := 151) dL_law_150 rfl rfl ?_
  refine v_ild3 (q := 152) dL_law_151 rfl ?_
  refine v_iconst (q := 153) (v := 3) dL_law_152 rfl (by decide) ?_
  refine v_iadd (q := 154) dL_law_153 rfl ?_
  refine v_sld (q := 155) (i + 3) dL_law_154 rfl (nI_add i 3) (by omega) (by omega) ?_
  refine v_callV (q := 158) (d' := 98 + 1) (av := [.int (scX g (i + 1)), .int (scX g (i + 2)), .int (scX g (i + 3))]) dL_law_155 rfl ok_X10_stage CL9 ml_L_17 imL_X10_stage seL_X10_stage hm1.1 (by omega) rfl rfl (Nat.le_of_ble_eq_true rfl) ?_
  refine q_stage (d := 98) hm1 hR hI hS (fun u2 ws2 hR2 hS2 => ?_)
  refine v_icmp_eq (t := 716) (q := 161) dL_law_158 (by decide) rfl (fun _ => ?_) (fun hc => absurd rfl hc)
  exact next _ ⟨ow1, sp1, us1, uz1, u2, _, ws2, hM1.model hT1, hI1, hS2, hm1.mh, mh_mh.symm, hR2, hT1.mh, (hl.tr l1).mh⟩
theorem lc_1 (hi : i + 6 ≤ scL g) (hL : scL g ≤ 3072) (hw : LW g c m lg SA ST WY po hB h) (next : ∀ h', LW g c m lg SA ST WY po hB h' → V g mL_law 100 716 [.ref (scB g), .ref c, .ref m, .int (nI i)] [] h' Q) : V g mL_law 100 163 [.ref (scB g), .ref c, .ref m, .int (nI i)] [] h Q := by
  obtain ⟨ow, sp, us, uz, u, X, ws, hM, hI, hS, hm, eH, hR, hT, hl⟩ := hw
  refine v_ald1 (q := 164) dL_law_163 rfl rfl ?_
  refine v_ald0 (q := 165) dL_law_164 rfl rfl ?_
  refine v_ild3 (q := 166) dL_law_165 rfl ?_
  refine v_iconst (q := 167) (v := 1) dL_law_166 rfl (by decide) ?_
  refine v_iadd (q := 168) dL_law_167 rfl ?_
  refine v_sld (q := 169) (i + 1) dL_law_168 rfl (nI_add i 1) (by omega) (by omega) ?_
  refine v_ald0 (q := 170) dL_law_169 rfl rfl ?_
  refine v_ild3 (q := 171) dL_law_170 rfl ?_
  refine v_iconst (q := 172) (v := 2) dL_law_171 rfl (by decide) ?_
  refine v_iadd (q := 173) dL_law_172 rfl ?_
  refine v_sld (q := 174) (i + 2) dL_law_173 rfl (nI_add i 2) (by omega) (by omega) ?_
  refine v_callV (q := 177) (d' := 87 + 12) (av := [.int (scX g (i + 1)), .int (scX g (i + 2))]) dL_law_174 rfl ok_X9_feed CL8 ml_L_18 imL_X9_feed seL_X9_feed hM.1.1 (by omega) rfl rfl (Nat.le_of_ble_eq_true rfl) ?_
  refine k_feed (d := 87) hM hI (fun h1 ow1 us1 uz1 sp1 hM1 hI1 f1 l1 => ?_)
  obtain ⟨hm1, e1, hT1⟩ := mo_keep f1 hm eH hT
  show V g mL_law 100 177 [.ref (scB g), .ref c, .ref m, .int (nI i)] [.int _] h1 Q
  rw [e1]
  refine v_ald2 (q := 178) dL_law_177 rfl rfl ?_
  refine v_ald0 (q := 179) dL_law_178 rfl rfl ?_
  refine v_ild3 (q := 180) dL_law_179 rfl ?_
  refine v_iconst (q := 181) (v := 1) dL_law_180 rfl (by decide) ?_
  refine v_iadd (q := 182) dL_law_181 rfl ?_
  refine v_sld (q := 183) (i + 1) dL_law_182 rfl (nI_add i 1) (by omega) (by omega) ?_
  refine v_ald0 (q := 184) dL_law_183 rfl rfl ?_
  refine v_ild3 (q := 185) dL_law_184 rfl ?_
  refine v_iconst (q := 186) (v := 2) dL_law_185 rfl (by decide) ?_
  refine v_iadd (q := 187) dL_law_186 rfl ?_
  refine v_sld (q := 188) (i + 2) dL_law_187 rfl (nI_add i 2) (by omega) (by omega) ?_
  refine v_callV (q := 191) (d' := 93 + 6) (av := [.int (scX g (i + 1)), .int (scX g (i + 2))]) dL_law_188 rfl ok_X10_feed CL9 ml_L_22 imL_X10_feed seL_X10_feed hm1.1 (by omega) rfl rfl (Nat.le_of_ble_eq_true rfl) ?_
  refine q_feed (d := 93) hm1 hR hI hS (fun u2 ws2 hR2 hS2 => ?_)
  refine v_icmp_eq (t := 716) (q := 194) dL_law_191 (by decide) rfl (fun _ => ?_) (fun hc => absurd rfl hc)
  exact next _ ⟨ow1, sp1, us1, uz1, u2, _, ws2, hM1.model hT1, hI1, hS2, hm1.mh, mh_mh.symm, hR2, hT1.mh, (hl.tr l1).mh⟩
theorem lc_2 (hi : i + 6 ≤ scL g) (hL : scL g ≤ 3072) (hw : LW g c m lg SA ST WY po hB h) (next : ∀ h', LW g c m lg SA ST WY po hB h' → V g mL_law 100 716 [.ref (scB g), .ref c, .ref m, .int (nI i)] [] h' Q) : V g mL_law 100 196 [.ref (scB g), .ref c, .ref m, .int (nI i)] [] h Q := by
  obtain ⟨ow, sp, us, uz, u, X, ws, hM, hI, hS, hm, eH, hR, hT, hl⟩ := hw
  refine v_ald1 (q := 197) dL_law_196 rfl rfl ?_
  refine v_ald0 (q := 198) dL_law_197 rfl rfl ?_
  refine v_ild3 (q := 199) dL_law_198 rfl ?_
  refine v_iconst (q := 200) (v := 1) dL_law_199 rfl (by decide) ?_
  refine v_iadd (q := 201) dL_law_200 rfl ?_
  refine v_sld (q := 202) (i + 1) dL_law_201 rfl (nI_add i 1) (by omega) (by omega) ?_
  refine v_ald0 (q := 203) dL_law_202 rfl rfl ?_
  refine v_ild3 (q := 204) dL_law_203 rfl ?_
  refine v_iconst (q := 205) (v := 2) dL_law_204 rfl (by decide) ?_
  refine v_iadd (q := 206) dL_law_205 rfl ?_
  refine v_sld (q := 207) (i + 2) dL_law_206 rfl (nI_add i 2) (by omega) (by omega) ?_
  refine v_ald0 (q := 208) dL_law_207 rfl rfl ?_
  refine v_ild3 (q := 209) dL_law_208 rfl ?_
  refine v_iconst (q := 210) (v := 3) dL_law_209 rfl (by decide) ?_
  refine v_iadd (q := 211) dL_law_210 rfl ?_
  refine v_sld (q := 212) (i + 3) dL_law_211 rfl (nI_add i 3) (by omega) (by omega) ?_
  refine v_ald0 (q := 213) dL_law_212 rfl rfl ?_
  refine v_ild3 (q := 214) dL_law_213 rfl ?_
  refine v_iconst (q := 215) (v := 4) dL_law_214 rfl (by decide) ?_
  refine v_iadd (q := 216) dL_law_215 rfl ?_
  refine v_sld (q := 217) (i + 4) dL_law_216 rfl (nI_add i 4) (by omega) (by omega) ?_
  refine v_callV (q := 220) (d' := 98 + 1) (av := [.int (scX g (i + 1)), .int (scX g (i + 2)), .int (scX g (i + 3)), .int (scX g (i + 4))]) dL_law_217 rfl ok_X9_window CL8 ml_L_23 imL_X9_window seL_X9_window hM.1.1 (by omega) rfl rfl (Nat.le_of_ble_eq_true rfl) ?_
  refine k_window (d := 98) hM hI (fun h1 ow1 us1 uz1 sp1 hM1 hI1 f1 l1 => ?_)
  obtain ⟨hm1, e1, hT1⟩ := mo_keep f1 hm eH hT
  show V g mL_law 100 220 [.ref (scB g), .ref c, .ref m, .int (nI i)] [.int _] h1 Q
  rw [e1]
  refine v_ald2 (q := 221) dL_law_220 rfl rfl ?_
  refine v_ald0 (q := 222) dL_law_221 rfl rfl ?_
  refine v_ild3 (q := 223) dL_law_222 rfl ?_
  refine v_iconst (q := 224) (v := 1) dL_law_223 rfl (by decide) ?_
  refine v_iadd (q := 225) dL_law_224 rfl ?_
  refine v_sld (q := 226) (i + 1) dL_law_225 rfl (nI_add i 1) (by omega) (by omega) ?_
  refine v_ald0 (q := 227) dL_law_226 rfl rfl ?_
  refine v_ild3 (q := 228) dL_law_227 rfl ?_
  refine v_iconst (q := 229) (v := 2) dL_law_228 rfl (by decide) ?_
  refine v_iadd (q := 230) dL_law_229 rfl ?_
  refine v_sld (q := 231) (i + 2) dL_law_230 rfl (nI_add i 2) (by omega) (by omega) ?_
  refine v_ald0 (q := 232) dL_law_231 rfl rfl ?_
  refine v_ild3 (q := 233) dL_law_232 rfl ?_
  refine v_iconst (q := 234) (v := 3) dL_law_233 rfl (by decide) ?_
  refine v_iadd (q := 235) dL_law_234 rfl ?_
  refine v_sld (q := 236) (i + 3) dL_law_235 rfl (nI_add i 3) (by omega) (by omega) ?_
  refine v_ald0 (q := 237) dL_law_236 rfl rfl ?_
  refine v_ild3 (q := 238) dL_law_237 rfl ?_
  refine v_iconst (q := 239) (v := 4) dL_law_238 rfl (by decide) ?_
  refine v_iadd (q := 240) dL_law_239 rfl ?_
  refine v_sld (q := 241) (i + 4) dL_law_240 rfl (nI_add i 4) (by omega) (by omega) ?_
  refine v_callV (q := 244) (d' := 98 + 1) (av := [.int (scX g (i + 1)), .int (scX g (i + 2)), .int (scX g (i + 3)), .int (scX g (i + 4))]) dL_law_241 rfl ok_X10_window CL9 ml_L_27 imL_X10_window seL_X10_window hm1.1 (by omega) rfl rfl (Nat.le_of_ble_eq_true rfl) ?_
  refine q_window (d := 98) hm1 hR hI hS (fun u2 ws2 hR2 hS2 => ?_)
  refine v_icmp_eq (t := 716) (q := 247) dL_law_244 (by decide) rfl (fun _ => ?_) (fun hc => absurd rfl hc)
  exact next _ ⟨ow1, sp1, us1, uz1, u2, _, ws2, hM1.model hT1, hI1, hS2, hm1.mh, mh_mh.symm, hR2, hT1.mh, (hl.tr l1).mh⟩
theorem lc_3 (hi : i + 6 ≤ scL g) (hL : scL g ≤ 3072) (hw : LW g c m lg SA ST WY po hB h) (next : ∀ h', LW g c m lg SA ST WY po hB h' → V g mL_law 100 716 [.ref (scB g), .ref c, .ref m, .int (nI i)] [] h' Q) : V g mL_law 100 249 [.ref (scB g), .ref c, .ref m, .int (nI i)] [] h Q := by
  obtain ⟨ow, sp, us, uz, u, X, ws, hM, hI, hS, hm, eH, hR, hT, hl⟩ := hw
  refine v_ald1 (q := 250) dL_law_249 rfl rfl ?_
  refine v_ald0 (q := 251) dL_law_250 rfl rfl ?_
  refine v_ild3 (q := 252) dL_law_251 rfl ?_
  refine v_iconst (q := 253) (v := 1) dL_law_252 rfl (by decide) ?_
  refine v_iadd (q := 254) dL_law_253 rfl ?_
  refine v_sld (q := 255) (i + 1) dL_law_254 rfl (nI_add i 1) (by omega) (by omega) ?_
  refine v_ald0 (q := 256) dL_law_255 rfl rfl ?_
  refine v_ild3 (q := 257) dL_law_256 rfl ?_
  refine v_iconst (q := 258) (v := 2) dL_law_257 rfl (by decide) ?_
  refine v_iadd (q := 259) dL_law_258 rfl ?_
  refine v_sld (q := 260) (i + 2) dL_law_259 rfl (nI_add i 2) (by omega) (by omega) ?_
  refine v_ald0 (q := 261) dL_law_260 rfl rfl ?_
  refine v_ild3 (q := 262) dL_law_261 rfl ?_
  refine v_iconst (q := 263) (v := 3) dL_law_262 rfl (by decide) ?_
  refine v_iadd (q := 264) dL_law_263 rfl ?_
  refine v_sld (q := 265) (i + 3) dL_law_264 rfl (nI_add i 3) (by omega) (by omega) ?_
  refine v_ald0 (q := 266) dL_law_265 rfl rfl ?_
  refine v_ild3 (q := 267) dL_law_266 rfl ?_
  refine v_iconst (q := 268) (v := 4) dL_law_267 rfl (by decide) ?_
  refine v_iadd (q := 269) dL_law_268 rfl ?_
  refine v_sld (q := 270) (i + 4) dL_law_269 rfl (nI_add i 4) (by omega) (by omega) ?_
  refine v_callV (q := 273) (d' := 70 + 29) (av := [.int (scX g (i + 1)), .int (scX g (i + 2)), .int (scX g (i + 3)), .int (scX g (i + 4))]) dL_law_270 rfl ok_X9_event CL8 ml_L_28 imL_X9_event seL_X9_event hM.1.1 (by omega) rfl rfl (Nat.le_of_ble_eq_true rfl) ?_
  refine k_event (d := 70) hM hI (fun h1 ow1 us1 uz1 sp1 hM1 hI1 f1 l1 => ?_)
  obtain ⟨hm1, e1, hT1⟩ := mo_keep f1 hm eH hT
  show V g mL_law 100 273 [.ref (scB g), .ref c, .ref m, .int (nI i)] [.int _] h1 Q
  rw [e1]
  refine v_ald2 (q := 274) dL_law_273 rfl rfl ?_
  refine v_ald0 (q := 275) dL_law_274 rfl rfl ?_
  refine v_ild3 (q := 276) dL_law_275 rfl ?_
  refine v_iconst (q := 277) (v := 1) dL_law_276 rfl (by decide) ?_
  refine v_iadd (q := 278) dL_law_277 rfl ?_
  refine v_sld (q := 279) (i + 1) dL_law_278 rfl (nI_add i 1) (by omega) (by omega) ?_
  refine v_ald0 (q := 280) dL_law_279 rfl rfl ?_
  refine v_ild3 (q := 281) dL_law_280 rfl ?_
  refine v_iconst (q := 282) (v := 2) dL_law_281 rfl (by decide) ?_
  refine v_iadd (q := 283) dL_law_282 rfl ?_
  refine v_sld (q := 284) (i + 2) dL_law_283 rfl (nI_add i 2) (by omega) (by omega) ?_
  refine v_ald0 (q := 285) dL_law_284 rfl rfl ?_
  refine v_ild3 (q := 286) dL_law_285 rfl ?_
  refine v_iconst (q := 287) (v := 3) dL_law_286 rfl (by decide) ?_
  refine v_iadd (q := 288) dL_law_287 rfl ?_
  refine v_sld (q := 289) (i + 3) dL_law_288 rfl (nI_add i 3) (by omega) (by omega) ?_
  refine v_ald0 (q := 290) dL_law_289 rfl rfl ?_
  refine v_ild3 (q := 291) dL_law_290 rfl ?_
  refine v_iconst (q := 292) (v := 4) dL_law_291 rfl (by decide) ?_
  refine v_iadd (q := 293) dL_law_292 rfl ?_
  refine v_sld (q := 294) (i + 4) dL_law_293 rfl (nI_add i 4) (by omega) (by omega) ?_
  refine v_callV (q := 297) (d' := 40 + 59) (av := [.int (scX g (i + 1)), .int (scX g (i + 2)), .int (scX g (i + 3)), .int (scX g (i + 4))]) dL_law_294 rfl ok_X10_event CL9 ml_L_31 imL_X10_event seL_X10_event hm1.1 (by omega) rfl rfl (Nat.le_of_ble_eq_true rfl) ?_
  refine q_event (d := 40) hm1 hR hI hS (fun u2 ws2 hR2 hS2 => ?_)
  refine v_icmp_eq (t := 716) (q := 300) dL_law_297 (by decide) rfl (fun _ => ?_) (fun hc => absurd rfl hc)
  exact next _ ⟨ow1, sp1, us1, uz1, u2, _, ws2, hM1.model hT1, hI1, hS2, hm1.mh, mh_mh.symm, hR2, hT1.mh, (hl.tr l1).mh⟩
theorem lc_4 (hi : i + 6 ≤ scL g) (hL : scL g ≤ 3072) (hw : LW g c m lg SA ST WY po hB h) (next : ∀ h', LW g c m lg SA ST WY po hB h' → V g mL_law 100 716 [.ref (scB g), .ref c, .ref m, .int (nI i)] [] h' Q) : V g mL_law 100 302 [.ref (scB g), .ref c, .ref m, .int (nI i)] [] h Q := by
  obtain ⟨ow, sp, us, uz, u, X, ws, hM, hI, hS, hm, eH, hR, hT, hl⟩ := hw
  refine v_ald1 (q := 303) dL_law_302 rfl rfl ?_
  refine v_ald0 (q := 304) dL_law_303 rfl rfl ?_
  refine v_ild3 (q := 305) dL_law_304 rfl ?_
  refine v_iconst (q := 306) (v := 1) dL_law_305 rfl (by decide) ?_
  refine v_iadd (q := 307) dL_law_306 rfl ?_
  refine v_sld (q := 308) (i + 1) dL_law_307 rfl (nI_add i 1) (by omega) (by omega) ?_
  refine v_ald0 (q := 309) dL_law_308 rfl rfl ?_
  refine v_ild3 (q := 310) dL_law_309 rfl ?_
  refine v_iconst (q := 311) (v := 2) dL_law_310 rfl (by decide) ?_
  refine v_iadd (q := 312) dL_law_311 rfl ?_
  refine v_sld (q := 313) (i + 2) dL_law_312 rfl (nI_add i 2) (by omega) (by omega) ?_
  refine v_ald0 (q := 314) dL_law_313 rfl rfl ?_
  refine v_ild3 (q := 315) dL_law_314 rfl ?_
  refine v_iconst (q := 316) (v := 3) dL_law_315 rfl (by decide) ?_
  refine v_iadd (q := 317) dL_law_316 rfl ?_
  refine v_sld (q := 318) (i + 3) dL_law_317 rfl (nI_add i 3) (by omega) (by omega) ?_
  refine v_ald0 (q := 319) dL_law_318 rfl rfl ?_
  refine v_ild3 (q := 320) dL_law_319 rfl ?_
  refine v_iconst (q := 321) (v := 4) dL_law_320 rfl (by decide) ?_
  refine v_iadd (q := 322) dL_law_321 rfl ?_
  refine v_sld (q := 323) (i + 4) dL_law_322 rfl (nI_add i 4) (by omega) (by omega) ?_
  refine v_ald0 (q := 324) dL_law_323 rfl rfl ?_
  refine v_ild3 (q := 325) dL_law_324 rfl ?_
  refine v_iconst (q := 326) (v := 5) dL_law_325 rfl (by decide) ?_
  refine v_iadd (q := 327) dL_law_326 rfl ?_
  refine v_sld (q := 328) (i + 5) dL_law_327 rfl (nI_add i 5) (by omega) (by omega) ?_
  refine v_callV (q := 331) (d' := 70 + 29) (av := [.int (scX g (i + 1)), .int (scX g (i + 2)), .int (scX g (i + 3)), .int (scX g (i + 4)), .int (scX g (i + 5))]) dL_law_328 rfl ok_X9_burst CL8 ml_L_32 imL_X9_burst seL_X9_burst hM.1.1 (by omega) rfl rfl (Nat.le_of_ble_eq_true rfl) ?_
  refine k_burst (d := 70) hM hI (fun h1 ow1 us1 uz1 sp1 hM1 hI1 f1 l1 => ?_)
  obtain ⟨hm1, e1, hT1⟩ := mo_keep f1 hm eH hT
  show V g mL_law 100 331 [.ref (scB g), .ref c, .ref m, .int (nI i)] [.int _] h1 Q
  rw [e1]
  refine v_ald2 (q := 332) dL_law_331 rfl rfl ?_
  refine v_ald0 (q := 333) dL_law_332 rfl rfl ?_
  refine v_ild3 (q := 334) dL_law_333 rfl ?_
  refine v_iconst (q := 335) (v := 1) dL_law_334 rfl (by decide) ?_
  refine v_iadd (q := 336) dL_law_335 rfl ?_
  refine v_sld (q := 337) (i + 1) dL_law_336 rfl (nI_add i 1) (by omega) (by omega) ?_
  refine v_ald0 (q := 338) dL_law_337 rfl rfl ?_
  refine v_ild3 (q := 339) dL_law_338 rfl ?_
  refine v_iconst (q := 340) (v := 2) dL_law_339 rfl (by decide) ?_
  refine v_iadd (q := 341) dL_law_340 rfl ?_
  refine v_sld (q := 342) (i + 2) dL_law_341 rfl (nI_add i 2) (by omega) (by omega) ?_
  refine v_ald0 (q := 343) dL_law_342 rfl rfl ?_
  refine v_ild3 (q := 344) dL_law_343 rfl ?_
  refine v_iconst (q := 345) (v := 3) dL_law_344 rfl (by decide) ?_
  refine v_iadd (q := 346) dL_law_345 rfl ?_
  refine v_sld (q := 347) (i + 3) dL_law_346 rfl (nI_add i 3) (by omega) (by omega) ?_
  refine v_ald0 (q := 348) dL_law_347 rfl rfl ?_
  refine v_ild3 (q := 349) dL_law_348 rfl ?_
  refine v_iconst (q := 350) (v := 4) dL_law_349 rfl (by decide) ?_
  refine v_iadd (q := 351) dL_law_350 rfl ?_
  refine v_sld (q := 352) (i + 4) dL_law_351 rfl (nI_add i 4) (by omega) (by omega) ?_
  refine v_ald0 (q := 353) dL_law_352 rfl rfl ?_
  refine v_ild3 (q := 354) dL_law_353 rfl ?_
  refine v_iconst (q := 355) (v := 5) dL_law_354 rfl (by decide) ?_
  refine v_iadd (q := 356) dL_law_355 rfl ?_
  refine v_sld (q := 357) (i + 5) dL_law_356 rfl (nI_add i 5) (by omega) (by omega) ?_
  refine v_callV (q := 360) (d' := 40 + 59) (av := [.int (scX g (i + 1)), .int (scX g (i + 2)), .int (scX g (i + 3)), .int (scX g (i + 4)), .int (scX g (i + 5))]) dL_law_357 rfl ok_X10_burst CL9 ml_L_36 imL_X10_burst seL_X10_burst hm1.1 (by omega) rfl rfl (Nat.le_of_ble_eq_true rfl) ?_
  refine q_burst (d := 40) hm1 hR hI hS (fun u2 ws2 hR2 hS2 => ?_)
  refine v_icmp_eq (t := 716) (q := 363) dL_law_360 (by decide) rfl (fun _ => ?_) (fun hc => absurd rfl hc)
  exact next _ ⟨ow1, sp1, us1, uz1, u2, _, ws2, hM1.model hT1, hI1, hS2, hm1.mh, mh_mh.symm, hR2, hT1.mh, (hl.tr l1).mh⟩
theorem lc_5 (hi : i + 6 ≤ scL g) (hL : scL g ≤ 3072) (hw : LW g c m lg SA ST WY po hB h) (next : ∀ h', LW g c m lg SA ST WY po hB h' → V g mL_law 100 716 [.ref (scB g), .ref c, .ref m, .int (nI i)] [] h' Q) : V g mL_law 100 365 [.ref (scB g), .ref c, .ref m, .int (nI i)] [] h Q := by
  obtain ⟨ow, sp, us, uz, u, X, ws, hM, hI, hS, hm, eH, hR, hT, hl⟩ := hw
  refine v_ald1 (q := 366) dL_law_365 rfl rfl ?_
  refine v_ald0 (q := 367) dL_law_366 rfl rfl ?_
  refine v_ild3 (q := 368) dL_law_367 rfl ?_
  refine v_iconst (q := 369) (v := 1) dL_law_368 rfl (by decide) ?_
  refine v_iadd (q := 370) dL_law_369 rfl ?_
  refine v_sld (q := 371) (i + 1) dL_law_370 rfl (nI_add i 1) (by omega) (by omega) ?_
  refine v_ald0 (q := 372) dL_law_371 rfl rfl ?_
  refine v_ild3 (q := 373) dL_law_372 rfl ?_
  refine v_iconst (q := 374) (v := 2) dL_law_373 rfl (by decide) ?_
  refine v_iadd (q := 375) dL_law_374 rfl ?_
  refine v_sld (q := 376) (i + 2) dL_law_375 rfl (nI_add i 2) (by omega) (by omega) ?_
  refine v_callV (q := 379) (d' := 87 + 12) (av := [.int (scX g (i + 1)), .int (scX g (i + 2))]) dL_law_376 rfl ok_X9_mark CL8 ml_L_37 imL_X9_mark seL_X9_mark hM.1.1 (by omega) rfl rfl (Nat.le_of_ble_eq_true rfl) ?_
  refine k_mark (d := 87) hM hI (fun h1 ow1 us1 uz1 sp1 hM1 hI1 f1 l1 => ?_)
  obtain ⟨hm1, e1, hT1⟩ := mo_keep f1 hm eH hT
  show V g mL_law 100 379 [.ref (scB g), .ref c, .ref m, .int (nI i)] [.int _] h1 Q
  rw [e1]
  refine v_ald2 (q := 380) dL_law_379 rfl rfl ?_
  refine v_ald0 (q := 381) dL_law_380 rfl rfl ?_
  refine v_ild3 (q := 382) dL_law_381 rfl ?_
  refine v_iconst (q := 383) (v := 1) dL_law_382 rfl (by decide) ?_
  refine v_iadd (q := 384) dL_law_383 rfl ?_
  refine v_sld (q := 385) (i + 1) dL_law_384 rfl (nI_add i 1) (by omega) (by omega) ?_
  refine v_ald0 (q := 386) dL_law_385 rfl rfl ?_
  refine v_ild3 (q := 387) dL_law_386 rfl ?_
  refine v_iconst (q := 388) (v := 2) dL_law_387 rfl (by decide) ?_
  refine v_iadd (q := 389) dL_law_388 rfl ?_
  refine v_sld (q := 390) (i + 2) dL_law_389 rfl (nI_add i 2) (by omega) (by omega) ?_
  refine v_callV (q := 393) (d' := 93 + 6) (av := [.int (scX g (i + 1)), .int (scX g (i + 2))]) dL_law_390 rfl ok_X10_mark CL9 ml_L_40 imL_X10_mark seL_X10_mark hm1.1 (by omega) rfl rfl (Nat.le_of_ble_eq_true rfl) ?_
  refine q_mark (d := 93) hm1 hR hI hS (fun u2 ws2 hR2 hS2 => ?_)
  refine v_icmp_eq (t := 716) (q := 396) dL_law_393 (by decide) rfl (fun _ => ?_) (fun hc => absurd rfl hc)
  exact next _ ⟨ow1, sp1, us1, uz1, u2, _, ws2, hM1.model hT1, hI1, hS2, hm1.mh, mh_mh.symm, hR2, hT1.mh, (hl.tr l1).mh⟩
theorem lc_6 (hi : i + 6 ≤ scL g) (hL : scL g ≤ 3072) (hw : LW g c m lg SA ST WY po hB h) (next : ∀ h', LW g c m lg SA ST WY po hB h' → V g mL_law 100 716 [.ref (scB g), .ref c, .ref m, .int (nI i)] [] h' Q) : V g mL_law 100 398 [.ref (scB g), .ref c, .ref m, .int (nI i)] [] h Q := by
  obtain ⟨ow, sp, us, uz, u, X, ws, hM, hI, hS, hm, eH, hR, hT, hl⟩ := hw
  refine v_ald1 (q := 399) dL_law_398 rfl rfl ?_
  refine v_ald0 (q := 400) dL_law_399 rfl rfl ?_
  refine v_ild3 (q := 401) dL_law_400 rfl ?_
  refine v_iconst (q := 402) (v := 1) dL_law_401 rfl (by decide) ?_
  refine v_iadd (q := 403) dL_law_402 rfl ?_
  refine v_sld (q := 404) (i + 1) dL_law_403 rfl (nI_add i 1) (by omega) (by omega) ?_
  refine v_ald0 (q := 405) dL_law_404 rfl rfl ?_
  refine v_ild3 (q := 406) dL_law_405 rfl ?_
  refine v_iconst (q := 407) (v := 2) dL_law_406 rfl (by decide) ?_
  refine v_iadd (q := 408) dL_law_407 rfl ?_
  refine v_sld (q := 409) (i + 2) dL_law_408 rfl (nI_add i 2) (by omega) (by omega) ?_
  refine v_callV (q := 412) (d' := 87 + 12) (av := [.int (scX g (i + 1)), .int (scX g (i + 2))]) dL_law_409 rfl ok_X9_idle CL8 ml_L_41 imL_X9_idle seL_X9_idle hM.1.1 (by omega) rfl rfl (Nat.le_of_ble_eq_true rfl) ?_
  refine k_idle (d := 87) hM hI (fun h1 ow1 us1 uz1 sp1 hM1 hI1 f1 l1 => ?_)
  obtain ⟨hm1, e1, hT1⟩ := mo_keep f1 hm eH hT
  show V g mL_law 100 412 [.ref (scB g), .ref c, .ref m, .int (nI i)] [.int _] h1 Q
  rw [e1]
  refine v_ald2 (q := 413) dL_law_412 rfl rfl ?_
  refine v_ald0 (q := 414) dL_law_413 rfl rfl ?_
  refine v_ild3 (q := 415) dL_law_414 rfl ?_
  refine v_iconst (q := 416) (v := 1) dL_law_415 rfl (by decide) ?_
  refine v_iadd (q := 417) dL_law_416 rfl ?_
  refine v_sld (q := 418) (i + 1) dL_law_417 rfl (nI_add i 1) (by omega) (by omega) ?_
  refine v_ald0 (q := 419) dL_law_418 rfl rfl ?_
  refine v_ild3 (q := 420) dL_law_419 rfl ?_
  refine v_iconst (q := 421) (v := 2) dL_law_420 rfl (by decide) ?_
  refine v_iadd (q := 422) dL_law_421 rfl ?_
  refine v_sld (q := 423) (i + 2) dL_law_422 rfl (nI_add i 2) (by omega) (by omega) ?_
  refine v_callV (q := 426) (d' := 93 + 6) (av := [.int (scX g (i + 1)), .int (scX g (i + 2))]) dL_law_423 rfl ok_X10_idle CL9 ml_L_44 imL_X10_idle seL_X10_idle hm1.1 (by omega) rfl rfl (Nat.le_of_ble_eq_true rfl) ?_
  refine q_idle (d := 93) hm1 hR hI hS (fun u2 ws2 hR2 hS2 => ?_)
  refine v_icmp_eq (t := 716) (q := 429) dL_law_426 (by decide) rfl (fun _ => ?_) (fun hc => absurd rfl hc)
  exact next _ ⟨ow1, sp1, us1, uz1, u2, _, ws2, hM1.model hT1, hI1, hS2, hm1.mh, mh_mh.symm, hR2, hT1.mh, (hl.tr l1).mh⟩
theorem lc_7 (hi : i + 6 ≤ scL g) (hL : scL g ≤ 3072) (hw : LW g c m lg SA ST WY po hB h) (next : ∀ h', LW g c m lg SA ST WY po hB h' → V g mL_law 100 716 [.ref (scB g), .ref c, .ref m, .int (nI i)] [] h' Q) : V g mL_law 100 431 [.ref (scB g), .ref c, .ref m, .int (nI i)] [] h Q := by
  obtain ⟨ow, sp, us, uz, u, X, ws, hM, hI, hS, hm, eH, hR, hT, hl⟩ := hw
  obtain ⟨hE, hr, hn, h16, hlen, hv⟩ := lw_bd hI hS hR
  refine v_ald1 (q := 432) dL_law_431 rfl rfl ?_
  refine v_callV (q := 435) (d' := 99 + 0) (av := []) dL_law_432 rfl ok_X9_rows CL8 ml_L_45 imL_X9_rows seL_X9_rows hM.1.1 (by omega) rfl rfl (Nat.le_of_ble_eq_true rfl) ?_
  refine k_rows (d := 99) hM ?_
  show V g mL_law 100 435 [.ref (scB g), .ref c, .ref m, .int (nI i)] [.int _] h Q
  rw [eH]
  refine v_ald2 (q := 436) dL_law_435 rfl rfl ?_
  refine v_callV (q := 439) (d' := 99 + 0) (av := []) dL_law_436 rfl ok_X10_rows CL9 ml_L_49 imL_X10_rows seL_X10_rows hm.1 (by omega) rfl rfl (Nat.le_of_ble_eq_true rfl) ?_
  refine q_rows (d := 99) hm hR ?_
  refine v_icmp_eq (t := 716) (q := 442) dL_law_439 (by decide) rfl (fun _ => ?_) (fun hc => absurd rfl hc)
  exact next _ ⟨ow, sp, us, uz, u, X, ws, hM.model hT, hI, hS, hm.mh, mh_mh.symm, hR, hT.mh, hl.mh⟩
theorem lc_8 (hi : i + 6 ≤ scL g) (hL : scL g ≤ 3072) (hw : LW g c m lg SA ST WY po hB h) (next : ∀ h', LW g c m lg SA ST WY po hB h' → V g mL_law 100 716 [.ref (scB g), .ref c, .ref m, .int (nI i)] [] h' Q) : V g mL_law 100 444 [.ref (scB g), .ref c, .ref m, .int (nI i)] [] h Q := by
  obtain ⟨ow, sp, us, uz, u, X, ws, hM, hI, hS, hm, eH, hR, hT, hl⟩ := hw
  obtain ⟨hE, hr, hn, h16, hlen, hv⟩ := lw_bd hI hS hR
  refine v_ald1 (q := 445) dL_law_444 rfl rfl ?_
  refine v_ald0 (q := 446) dL_law_445 rfl rfl ?_
  refine v_ild3 (q := 447) dL_law_446 rfl ?_
  refine v_iconst (q := 448) (v := 1) dL_law_447 rfl (by decide) ?_
  refine v_iadd (q := 449) dL_law_448 rfl ?_
  refine v_sld (q := 450) (i + 1) dL_law_449 rfl (nI_add i 1) (by omega) (by omega) ?_
  refine v_ald0 (q := 451) dL_law_450 rfl rfl ?_
  refine v_ild3 (q := 452) dL_law_451 rfl ?_
  refine v_iconst (q := 453) (v := 2) dL_law_452 rfl (by decide) ?_
  refine v_iadd (q := 454) dL_law_453 rfl ?_
  refine v_sld (q := 455) (i + 2) dL_law_454 rfl (nI_add i 2) (by omega) (by omega) ?_
  refine v_callV (q := 458) (d' := 97 + 2) (av := [.int (scX g (i + 1)), .int (scX g (i + 2))]) dL_law_455 rfl ok_X9_row CL8 ml_L_50 imL_X9_row seL_X9_row hM.1.1 (by omega) rfl rfl (Nat.le_of_ble_eq_true rfl) ?_
  refine k_row (d := 97) hM hS.2.1 ?_
  show V g mL_law 100 458 [.ref (scB g), .ref c, .ref m, .int (nI i)] [.int _] h Q
  rw [eH]
  refine v_ald2 (q := 459) dL_law_458 rfl rfl ?_
  refine v_ald0 (q := 460) dL_law_459 rfl rfl ?_
  refine v_ild3 (q := 461) dL_law_460 rfl ?_
  refine v_iconst (q := 462) (v := 1) dL_law_461 rfl (by decide) ?_
  refine v_iadd (q := 463) dL_law_462 rfl ?_
  refine v_sld (q := 464) (i + 1) dL_law_463 rfl (nI_add i 1) (by omega) (by omega) ?_
  refine v_ald0 (q := 465) dL_law_464 rfl rfl ?_
  refine v_ild3 (q := 466) dL_law_465 rfl ?_
  refine v_iconst (q := 467) (v := 2) dL_law_466 rfl (by decide) ?_
  refine v_iadd (q := 468) dL_law_467 rfl ?_
  refine v_sld (q := 469) (i + 2) dL_law_468 rfl (nI_add i 2) (by omega) (by omega) ?_
  refine v_callV (q := 472) (d' := 99 + 0) (av := [.int (scX g (i + 1)), .int (scX g (i + 2))]) dL_law_469 rfl ok_X10_row CL9 ml_L_53 imL_X10_row seL_X10_row hm.1 (by omega) rfl rfl (Nat.le_of_ble_eq_true rfl) ?_
  refine q_row (d := 99) hm hR hr ?_
  refine v_icmp_eq (t := 716) (q := 475) dL_law_472 (by decide) rfl (fun _ => ?_) (fun hc => absurd rfl hc)
  exact next _ ⟨ow, sp, us, uz, u, X, ws, hM.model hT, hI, hS, hm.mh, mh_mh.symm, hR, hT.mh, hl.mh⟩
theorem lc_9 (hi : i + 6 ≤ scL g) (hL : scL g ≤ 3072) (hw : LW g c m lg SA ST WY po hB h) (next : ∀ h', LW g c m lg SA ST WY po hB h' → V g mL_law 100 716 [.ref (scB g), .ref c, .ref m, .int (nI i)] [] h' Q) : V g mL_law 100 477 [.ref (scB g), .ref c, .ref m, .int (nI i)] [] h Q := by
  obtain ⟨ow, sp, us, uz, u, X, ws, hM, hI, hS, hm, eH, hR, hT, hl⟩ := hw
  obtain ⟨hE, hr, hn, h16, hlen, hv⟩ := lw_bd hI hS hR
  refine v_ald1 (q := 478) dL_law_477 rfl rfl ?_
  refine v_ald0 (q := 479) dL_law_478 rfl rfl ?_
  refine v_ild3 (q := 480) dL_law_479 rfl ?_
  refine v_iconst (q := 481) (v := 1) dL_law_480 rfl (by decide) ?_
  refine v_iadd (q := 482) dL_law_481 rfl ?_
  refine v_sld (q := 483) (i + 1) dL_law_482 rfl (nI_add i 1) (by omega) (by omega) ?_
  refine v_callV (q := 486) (d' := 97 + 2) (av := [.int (scX g (i + 1))]) dL_law_483 rfl ok_X9_sum CL8 ml_L_54 imL_X9_sum seL_X9_sum hM.1.1 (by omega) rfl rfl (Nat.le_of_ble_eq_true rfl) ?_
  refine k_sum (d := 97) hM ?_
  show V g mL_law 100 486 [.ref (scB g), .ref c, .ref m, .int (nI i)] [.long _] h Q
  rw [eH]
  refine v_ald2 (q := 487) dL_law_486 rfl rfl ?_
  refine v_ald0 (q := 488) dL_law_487 rfl rfl ?_
  refine v_ild3 (q := 489) dL_law_488 rfl ?_
  refine v_iconst (q := 490) (v := 1) dL_law_489 rfl (by decide) ?_
  refine v_iadd (q := 491) dL_law_490 rfl ?_
  refine v_sld (q := 492) (i + 1) dL_law_491 rfl (nI_add i 1) (by omega) (by omega) ?_
  refine v_callV (q := 495) (d' := 99 + 0) (av := [.int (scX g (i + 1))]) dL_law_492 rfl ok_X10_sum CL9 ml_L_58 imL_X10_sum seL_X10_sum hm.1 (by omega) rfl rfl (Nat.le_of_ble_eq_true rfl) ?_
  refine q_sum (d := 99) hm hR hr ?_
  refine v_lcmp (q := 496) dL_law_495 rfl ?_
  refine v_if_eq (t := 716) (q := 499) dL_law_496 (by decide) rfl (fun _ => ?_) (fun hc => absurd ((lg_cmp_eq _ _).mpr rfl) hc)
  exact next _ ⟨ow, sp, us, uz, u, X, ws, hM.model hT, hI, hS, hm.mh, mh_mh.symm, hR, hT.mh, hl.mh⟩
theorem lc_10 (hi : i + 6 ≤ scL g) (hL : scL g ≤ 3072) (hw : LW g c m lg SA ST WY po hB h) (next : ∀ h', LW g c m lg SA ST WY po hB h' → V g mL_law 100 716 [.ref (scB g), .ref c, .ref m, .int (nI i)] [] h' Q) : V g mL_law 100 501 [.ref (scB g), .ref c, .ref m, .int (nI i)] [] h Q := by
  obtain ⟨ow, sp, us, uz, u, X, ws, hM, hI, hS, hm, eH, hR, hT, hl⟩ := hw
  obtain ⟨hE, hr, hn, h16, hlen, hv⟩ := lw_bd hI hS hR
  refine v_ald1 (q := 502) dL_law_501 rfl rfl ?_
  refine v_ald0 (q := 503) dL_law_502 rfl rfl ?_
  refine v_ild3 (q := 504) dL_law_503 rfl ?_
  refine v_iconst (q := 505) (v := 1) dL_law_504 rfl (by decide) ?_
  refine v_iadd (q := 506) dL_law_505 rfl ?_
  refine v_sld (q := 507) (i + 1) dL_law_506 rfl (nI_add i 1) (by omega) (by omega) ?_
  refine v_callV (q := 510) (d' := 98 + 1) (av := [.int (scX g (i + 1))]) dL_law_507 rfl ok_X9_left CL8 ml_L_59 imL_X9_left seL_X9_left hM.1.1 (by omega) rfl rfl (Nat.le_of_ble_eq_true rfl) ?_
  refine k_left (d := 98) hM ?_
  show V g mL_law 100 510 [.ref (scB g), .ref c, .ref m, .int (nI i)] [.int _] h Q
  rw [eH]
  refine v_ald2 (q := 511) dL_law_510 rfl rfl ?_
  refine v_ald0 (q := 512) dL_law_511 rfl rfl ?_
  refine v_ild3 (q := 513) dL_law_512 rfl ?_
  refine v_iconst (q := 514) (v := 1) dL_law_513 rfl (by decide) ?_
  refine v_iadd (q := 515) dL_law_514 rfl ?_
  refine v_sld (q := 516) (i + 1) dL_law_515 rfl (nI_add i 1) (by omega) (by omega) ?_
  refine v_callV (q := 519) (d' := 98 + 1) (av := [.int (scX g (i + 1))]) dL_law_516 rfl ok_X10_left CL9 ml_L_63 imL_X10_left seL_X10_left hm.1 (by omega) rfl rfl (Nat.le_of_ble_eq_true rfl) ?_
  refine q_left (d := 98) hm hR hS h16 hn hr (fun v' hv' => ?_)
  refine v_icmp_eq (t := 716) (q := 522) dL_law_519 (by decide) rfl (fun _ => ?_) (fun hc => absurd rfl hc)
  exact next _ ⟨ow, sp, us, uz, v', X, ws, hM.model hT, hI, hS, hm.mh, mh_mh.symm, hR.scr hv', hT.mh, hl.mh⟩
theorem lc_11 (hi : i + 6 ≤ scL g) (hL : scL g ≤ 3072) (hw : LW g c m lg SA ST WY po hB h) (next : ∀ h', LW g c m lg SA ST WY po hB h' → V g mL_law 100 716 [.ref (scB g), .ref c, .ref m, .int (nI i)] [] h' Q) : V g mL_law 100 524 [.ref (scB g), .ref c, .ref m, .int (nI i)] [] h Q := by
  obtain ⟨ow, sp, us, uz, u, X, ws, hM, hI, hS, hm, eH, hR, hT, hl⟩ := hw
  obtain ⟨hE, hr, hn, h16, hlen, hv⟩ := lw_bd hI hS hR
  refine v_ald1 (q := 525) dL_law_524 rfl rfl ?_
  refine v_ald0 (q := 526) dL_law_525 rfl rfl ?_
  refine v_ild3 (q := 527) dL_law_526 rfl ?_
  refine v_iconst (q := 528) (v := 1) dL_law_527 rfl (by decide) ?_
  refine v_iadd (q := 529) dL_law_528 rfl ?_
  refine v_sld (q := 530) (i + 1) dL_law_529 rfl (nI_add i 1) (by omega) (by omega) ?_
  refine v_ald0 (q := 531) dL_law_530 rfl rfl ?_
  refine v_ild3 (q := 532) dL_law_531 rfl ?_
  refine v_iconst (q := 533) (v := 2) dL_law_532 rfl (by decide) ?_
  refine v_iadd (q := 534) dL_law_533 rfl ?_
  refine v_sld (q := 535) (i + 2) dL_law_534 rfl (nI_add i 2) (by omega) (by omega) ?_
  refine v_callV (q := 538) (d' := 94 + 5) (av := [.int (scX g (i + 1)), .int (scX g (i + 2))]) dL_law_535 rfl ok_X9_leftRow CL8 ml_L_64 imL_X9_leftRow seL_X9_leftRow hM.1.1 (by omega) rfl rfl (Nat.le_of_ble_eq_true rfl) ?_
  refine k_leftRow (d := 94) hM ?_
  show V g mL_law 100 538 [.ref (scB g), .ref c, .ref m, .int (nI i)] [.int _] h Q
  rw [eH]
  refine v_ald2 (q := 539) dL_law_538 rfl rfl ?_
  refine v_ald0 (q := 540) dL_law_539 rfl rfl ?_
  refine v_ild3 (q := 541) dL_law_540 rfl ?_
  refine v_iconst (q := 542) (v := 1) dL_law_541 rfl (by decide) ?_
  refine v_iadd (q := 543) dL_law_542 rfl ?_
  refine v_sld (q := 544) (i + 1) dL_law_543 rfl (nI_add i 1) (by omega) (by omega) ?_
  refine v_ald0 (q := 545) dL_law_544 rfl rfl ?_
  refine v_ild3 (q := 546) dL_law_545 rfl ?_
  refine v_iconst (q := 547) (v := 2) dL_law_546 rfl (by decide) ?_
  refine v_iadd (q := 548) dL_law_547 rfl ?_
  refine v_sld (q := 549) (i + 2) dL_law_548 rfl (nI_add i 2) (by omega) (by omega) ?_
  refine v_callV (q := 552) (d' := 97 + 2) (av := [.int (scX g (i + 1)), .int (scX g (i + 2))]) dL_law_549 rfl ok_X10_leftRow CL9 ml_L_67 imL_X10_leftRow seL_X10_leftRow hm.1 (by omega) rfl rfl (Nat.le_of_ble_eq_true rfl) ?_
  refine q_leftRow (d := 97) hm hR hS h16 hn hr (fun v' hv' => ?_)
  refine v_icmp_eq (t := 716) (q := 555) dL_law_552 (by decide) rfl (fun _ => ?_) (fun hc => absurd rfl hc)
  exact next _ ⟨ow, sp, us, uz, v', X, ws, hM.model hT, hI, hS, hm.mh, mh_mh.symm, hR.scr hv', hT.mh, hl.mh⟩
theorem lc_12 (hi : i + 6 ≤ scL g) (hL : scL g ≤ 3072) (hw : LW g c m lg SA ST WY po hB h) (next : ∀ h', LW g c m lg SA ST WY po hB h' → V g mL_law 100 716 [.ref (scB g), .ref c, .ref m, .int (nI i)] [] h' Q) : V g mL_law 100 557 [.ref (scB g), .ref c, .ref m, .int (nI i)] [] h Q := by
  obtain ⟨ow, sp, us, uz, u, X, ws, hM, hI, hS, hm, eH, hR, hT, hl⟩ := hw
  obtain ⟨hE, hr, hn, h16, hlen, hv⟩ := lw_bd hI hS hR
  refine v_ald1 (q := 558) dL_law_557 rfl rfl ?_
  refine v_ald0 (q := 559) dL_law_558 rfl rfl ?_
  refine v_ild3 (q := 560) dL_law_559 rfl ?_
  refine v_iconst (q := 561) (v := 1) dL_law_560 rfl (by decide) ?_
  refine v_iadd (q := 562) dL_law_561 rfl ?_
  refine v_sld (q := 563) (i + 1) dL_law_562 rfl (nI_add i 1) (by omega) (by omega) ?_
  refine v_ald0 (q := 564) dL_law_563 rfl rfl ?_
  refine v_ild3 (q := 565) dL_law_564 rfl ?_
  refine v_iconst (q := 566) (v := 2) dL_law_565 rfl (by decide) ?_
  refine v_iadd (q := 567) dL_law_566 rfl ?_
  refine v_sld (q := 568) (i + 2) dL_law_567 rfl (nI_add i 2) (by omega) (by omega) ?_
  refine v_callV (q := 571) (d' := 98 + 1) (av := [.int (scX g (i + 1)), .int (scX g (i + 2))]) dL_law_568 rfl ok_X9_about CL8 ml_L_68 imL_X9_about seL_X9_about hM.1.1 (by omega) rfl rfl (Nat.le_of_ble_eq_true rfl) ?_
  refine k_about (d := 98) hM ?_
  show V g mL_law 100 571 [.ref (scB g), .ref c, .ref m, .int (nI i)] [.int _] h Q
  rw [eH]
  refine v_ald2 (q := 572) dL_law_571 rfl rfl ?_
  refine v_ald0 (q := 573) dL_law_572 rfl rfl ?_
  refine v_ild3 (q := 574) dL_law_573 rfl ?_
  refine v_iconst (q := 575) (v := 1) dL_law_574 rfl (by decide) ?_
  refine v_iadd (q := 576) dL_law_575 rfl ?_
  refine v_sld (q := 577) (i + 1) dL_law_576 rfl (nI_add i 1) (by omega) (by omega) ?_
  refine v_ald0 (q := 578) dL_law_577 rfl rfl ?_
  refine v_ild3 (q := 579) dL_law_578 rfl ?_
  refine v_iconst (q := 580) (v := 2) dL_law_579 rfl (by decide) ?_
  refine v_iadd (q := 581) dL_law_580 rfl ?_
  refine v_sld (q := 582) (i + 2) dL_law_581 rfl (nI_add i 2) (by omega) (by omega) ?_
  refine v_callV (q := 585) (d' := 98 + 1) (av := [.int (scX g (i + 1)), .int (scX g (i + 2))]) dL_law_582 rfl ok_X10_about CL9 ml_L_71 imL_X10_about seL_X10_about hm.1 (by omega) rfl rfl (Nat.le_of_ble_eq_true rfl) ?_
  refine q_about (d := 98) hm hR hS h16 hn ?_
  refine v_icmp_eq (t := 716) (q := 588) dL_law_585 (by decide) rfl (fun _ => ?_) (fun hc => absurd rfl hc)
  exact next _ ⟨ow, sp, us, uz, u, X, ws, hM.model hT, hI, hS, hm.mh, mh_mh.symm, hR, hT.mh, hl.mh⟩
theorem lc_13 (hi : i + 6 ≤ scL g) (hL : scL g ≤ 3072) (hw : LW g c m lg SA ST WY po hB h) (next : ∀ h', LW g c m lg SA ST WY po hB h' → V g mL_law 100 716 [.ref (scB g), .ref c, .ref m, .int (nI i)] [] h' Q) : V g mL_law 100 590 [.ref (scB g), .ref c, .ref m, .int (nI i)] [] h Q := by
  obtain ⟨ow, sp, us, uz, u, X, ws, hM, hI, hS, hm, eH, hR, hT, hl⟩ := hw
  obtain ⟨hE, hr, hn, h16, hlen, hv⟩ := lw_bd hI hS hR
  refine v_ald1 (q := 591) dL_law_590 rfl rfl ?_
  refine v_ald0 (q := 592) dL_law_591 rfl rfl ?_
  refine v_ild3 (q := 593) dL_law_592 rfl ?_
  refine v_iconst (q := 594) (v := 1) dL_law_593 rfl (by decide) ?_
  refine v_iadd (q := 595) dL_law_594 rfl ?_
  refine v_sld (q := 596) (i + 1) dL_law_595 rfl (nI_add i 1) (by omega) (by omega) ?_
  refine v_ald0 (q := 597) dL_law_596 rfl rfl ?_
  refine v_ild3 (q := 598) dL_law_597 rfl ?_
  refine v_iconst (q := 599) (v := 2) dL_law_598 rfl (by decide) ?_
  refine v_iadd (q := 600) dL_law_599 rfl ?_
  refine v_sld (q := 601) (i + 2) dL_law_600 rfl (nI_add i 2) (by omega) (by omega) ?_
  refine v_callV (q := 604) (d' := 98 + 1) (av := [.int (scX g (i + 1)), .int (scX g (i + 2))]) dL_law_601 rfl ok_X9_gave CL8 ml_L_72 imL_X9_gave seL_X9_gave hM.1.1 (by omega) rfl rfl (Nat.le_of_ble_eq_true rfl) ?_
  refine k_gave (d := 98) hM ?_
  show V g mL_law 100 604 [.ref (scB g), .ref c, .ref m, .int (nI i)] [.int _] h Q
  rw [eH]
  refine v_ald2 (q := 605) dL_law_604 rfl rfl ?_
  refine v_ald0 (q := 606) dL_law_605 rfl rfl ?_
  refine v_ild3 (q := 607) dL_law_606 rfl ?_
  refine v_iconst (q := 608) (v := 1) dL_law_607 rfl (by decide) ?_
  refine v_iadd (q := 609) dL_law_608 rfl ?_
  refine v_sld (q := 610) (i + 1) dL_law_609 rfl (nI_add i 1) (by omega) (by omega) ?_
  refine v_ald0 (q := 611) dL_law_610 rfl rfl ?_
  refine v_ild3 (q := 612) dL_law_611 rfl ?_
  refine v_iconst (q := 613) (v := 2) dL_law_612 rfl (by decide) ?_
  refine v_iadd (q := 614) dL_law_613 rfl ?_
  refine v_sld (q := 615) (i + 2) dL_law_614 rfl (nI_add i 2) (by omega) (by omega) ?_
  refine v_callV (q := 618) (d' := 98 + 1) (av := [.int (scX g (i + 1)), .int (scX g (i + 2))]) dL_law_615 rfl ok_X10_gave CL9 ml_L_75 imL_X10_gave seL_X10_gave hm.1 (by omega) rfl rfl (Nat.le_of_ble_eq_true rfl) ?_
  refine q_gave (d := 98) hm hR hS h16 ?_
  refine v_icmp_eq (t := 716) (q := 621) dL_law_618 (by decide) rfl (fun _ => ?_) (fun hc => absurd rfl hc)
  exact next _ ⟨ow, sp, us, uz, u, X, ws, hM.model hT, hI, hS, hm.mh, mh_mh.symm, hR, hT.mh, hl.mh⟩
theorem lc_14 (hi : i + 6 ≤ scL g) (hL : scL g ≤ 3072) (hw : LW g c m lg SA ST WY po hB h) (next : ∀ h', LW g c m lg SA ST WY po hB h' → V g mL_law 100 716 [.ref (scB g), .ref c, .ref m, .int (nI i)] [] h' Q) : V g mL_law 100 623 [.ref (scB g), .ref c, .ref m, .int (nI i)] [] h Q := by
  obtain ⟨ow, sp, us, uz, u, X, ws, hM, hI, hS, hm, eH, hR, hT, hl⟩ := hw
  obtain ⟨hE, hr, hn, h16, hlen, hv⟩ := lw_bd hI hS hR
  refine v_ald1 (q := 624) dL_law_623 rfl rfl ?_
  refine v_ald0 (q := 625) dL_law_624 rfl rfl ?_
  refine v_ild3 (q := 626) dL_law_625 rfl ?_
  refine v_iconst (q := 627) (v := 1) dL_law_626 rfl (by decide) ?_
  refine v_iadd (q := 628) dL_law_627 rfl ?_
  refine v_sld (q := 629) (i + 1) dL_law_628 rfl (nI_add i 1) (by omega) (by omega) ?_
  refine v_callV (q := 632) (d' := 98 + 1) (av := [.int (scX g (i + 1))]) dL_law_629 rfl ok_X9_gaveValue CL8 ml_L_76 imL_X9_gaveValue seL_X9_gaveValue hM.1.1 (by omega) rfl rfl (Nat.le_of_ble_eq_true rfl) ?_
  refine k_gaveValue (d := 98) hM ?_
  show V g mL_law 100 632 [.ref (scB g), .ref c, .ref m, .int (nI i)] [.long _] h Q
  rw [eH]
  refine v_ald2 (q := 633) dL_law_632 rfl rfl ?_
  refine v_ald0 (q := 634) dL_law_633 rfl rfl ?_
  refine v_ild3 (q := 635) dL_law_634 rfl ?_
  refine v_iconst (q := 636) (v := 1) dL_law_635 rfl (by decide) ?_
  refine v_iadd (q := 637) dL_law_636 rfl ?_
  refine v_sld (q := 638) (i + 1) dL_law_637 rfl (nI_add i 1) (by omega) (by omega) ?_
  refine v_callV (q := 641) (d' := 98 + 1) (av := [.int (scX g (i + 1))]) dL_law_638 rfl ok_X10_gaveValue CL9 ml_L_79 imL_X10_gaveValue seL_X10_gaveValue hm.1 (by omega) rfl rfl (Nat.le_of_ble_eq_true rfl) ?_
  refine q_gaveValue (d := 98) hm hR hS h16 ?_
  refine v_lcmp (q := 642) dL_law_641 rfl ?_
  refine v_if_eq (t := 716) (q := 645) dL_law_642 (by decide) rfl (fun _ => ?_) (fun hc => absurd ((lg_cmp_eq _ _).mpr rfl) hc)
  exact next _ ⟨ow, sp, us, uz, u, X, ws, hM.model hT, hI, hS, hm.mh, mh_mh.symm, hR, hT.mh, hl.mh⟩
theorem lc_15 (hi : i + 6 ≤ scL g) (hL : scL g ≤ 3072) (hw : LW g c m lg SA ST WY po hB h) (next : ∀ h', LW g c m lg SA ST WY po hB h' → V g mL_law 100 716 [.ref (scB g), .ref c, .ref m, .int (nI i)] [] h' Q) : V g mL_law 100 647 [.ref (scB g), .ref c, .ref m, .int (nI i)] [] h Q := by
  obtain ⟨ow, sp, us, uz, u, X, ws, hM, hI, hS, hm, eH, hR, hT, hl⟩ := hw
  obtain ⟨hE, hr, hn, h16, hlen, hv⟩ := lw_bd hI hS hR
  refine v_ald1 (q := 648) dL_law_647 rfl rfl ?_
  refine v_ald0 (q := 649) dL_law_648 rfl rfl ?_
  refine v_ild3 (q := 650) dL_law_649 rfl ?_
  refine v_iconst (q := 651) (v := 1) dL_law_650 rfl (by decide) ?_
  refine v_iadd (q := 652) dL_law_651 rfl ?_
  refine v_sld (q := 653) (i + 1) dL_law_652 rfl (nI_add i 1) (by omega) (by omega) ?_
  refine v_callV (q := 656) (d' := 94 + 5) (av := [.int (scX g (i + 1))]) dL_law_653 rfl ok_X9_apart CL8 ml_L_80 imL_X9_apart seL_X9_apart hM.1.1 (by omega) rfl rfl (Nat.le_of_ble_eq_true rfl) ?_
  refine k_apart (d := 94) hM hv ?_
  show V g mL_law 100 656 [.ref (scB g), .ref c, .ref m, .int (nI i)] [.int _] h Q
  rw [eH]
  refine v_ald2 (q := 657) dL_law_656 rfl rfl ?_
  refine v_ald0 (q := 658) dL_law_657 rfl rfl ?_
  refine v_ild3 (q := 659) dL_law_658 rfl ?_
  refine v_iconst (q := 660) (v := 1) dL_law_659 rfl (by decide) ?_
  refine v_iadd (q := 661) dL_law_660 rfl ?_
  refine v_sld (q := 662) (i + 1) dL_law_661 rfl (nI_add i 1) (by omega) (by omega) ?_
  refine v_callV (q := 665) (d' := 97 + 2) (av := [.int (scX g (i + 1))]) dL_law_662 rfl ok_X10_apart CL9 ml_L_83 imL_X10_apart seL_X10_apart hm.1 (by omega) rfl rfl (Nat.le_of_ble_eq_true rfl) ?_
  refine q_apart (d := 97) hm hR hS h16 hE hr hlen (fun v' hv' => ?_)
  refine v_icmp_eq (t := 716) (q := 668) dL_law_665 (by decide) rfl (fun _ => ?_) (fun hc => absurd rfl hc)
  exact next _ ⟨ow, sp, us, uz, v', X, ws, hM.model hT, hI, hS, hm.mh, mh_mh.symm, hR.scr hv', hT.mh, hl.mh⟩
theorem lc_16 (hi : i + 6 ≤ scL g) (hL : scL g ≤ 3072) (hw : LW g c m lg SA ST WY po hB h) (next : ∀ h', LW g c m lg SA ST WY po hB h' → V g mL_law 100 716 [.ref (scB g), .ref c, .ref m, .int (nI i)] [] h' Q) : V g mL_law 100 670 [.ref (scB g), .ref c, .ref m, .int (nI i)] [] h Q := by
  obtain ⟨ow, sp, us, uz, u, X, ws, hM, hI, hS, hm, eH, hR, hT, hl⟩ := hw
  obtain ⟨hE, hr, hn, h16, hlen, hv⟩ := lw_bd hI hS hR
  refine v_ald1 (q := 671) dL_law_670 rfl rfl ?_
  refine v_ald0 (q := 672) dL_law_671 rfl rfl ?_
  refine v_ild3 (q := 673) dL_law_672 rfl ?_
  refine v_iconst (q := 674) (v := 1) dL_law_673 rfl (by decide) ?_
  refine v_iadd (q := 675) dL_law_674 rfl ?_
  refine v_sld (q := 676) (i + 1) dL_law_675 rfl (nI_add i 1) (by omega) (by omega) ?_
  refine v_callV (q := 679) (d' := 98 + 1) (av := [.int (scX g (i + 1))]) dL_law_676 rfl ok_X9_count CL8 ml_L_84 imL_X9_count seL_X9_count hM.1.1 (by omega) rfl rfl (Nat.le_of_ble_eq_true rfl) ?_
  refine k_count (d := 98) hM ?_
  show V g mL_law 100 679 [.ref (scB g), .ref c, .ref m, .int (nI i)] [.int _] h Q
  rw [eH]
  refine v_ald2 (q := 680) dL_law_679 rfl rfl ?_
  refine v_ald0 (q := 681) dL_law_680 rfl rfl ?_
  refine v_ild3 (q := 682) dL_law_681 rfl ?_
  refine v_iconst (q := 683) (v := 1) dL_law_682 rfl (by decide) ?_
  refine v_iadd (q := 684) dL_law_683 rfl ?_
  refine v_sld (q := 685) (i + 1) dL_law_684 rfl (nI_add i 1) (by omega) (by omega) ?_
  refine v_callV (q := 688) (d' := 99 + 0) (av := [.int (scX g (i + 1))]) dL_law_685 rfl ok_X10_count CL9 ml_L_87 imL_X10_count seL_X10_count hm.1 (by omega) rfl rfl (Nat.le_of_ble_eq_true rfl) ?_
  refine q_count (d := 99) hm hR h16 hn ?_
  refine v_icmp_eq (t := 716) (q := 691) dL_law_688 (by decide) rfl (fun _ => ?_) (fun hc => absurd rfl hc)
  exact next _ ⟨ow, sp, us, uz, u, X, ws, hM.model hT, hI, hS, hm.mh, mh_mh.symm, hR, hT.mh, hl.mh⟩
theorem lc_17 (hi : i + 6 ≤ scL g) (hL : scL g ≤ 3072) (hw : LW g c m lg SA ST WY po hB h) (next : ∀ h', LW g c m lg SA ST WY po hB h' → V g mL_law 100 716 [.ref (scB g), .ref c, .ref m, .int (nI i)] [] h' Q) : V g mL_law 100 693 [.ref (scB g), .ref c, .ref m, .int (nI i)] [] h Q := by
  obtain ⟨ow, sp, us, uz, u, X, ws, hM, hI, hS, hm, eH, hR, hT, hl⟩ := hw
  obtain ⟨hE, hr, hn, h16, hlen, hv⟩ := lw_bd hI hS hR
  refine v_ald1 (q := 694) dL_law_693 rfl rfl ?_
  refine v_ald0 (q := 695) dL_law_694 rfl rfl ?_
  refine v_ild3 (q := 696) dL_law_695 rfl ?_
  refine v_iconst (q := 697) (v := 1) dL_law_696 rfl (by decide) ?_
  refine v_iadd (q := 698) dL_law_697 rfl ?_
  refine v_sld (q := 699) (i + 1) dL_law_698 rfl (nI_add i 1) (by omega) (by omega) ?_
  refine v_callV (q := 702) (d' := 96 + 3) (av := [.int (scX g (i + 1))]) dL_law_699 rfl ok_X9_markOf CL8 ml_L_88 imL_X9_markOf seL_X9_markOf hM.1.1 (by omega) rfl rfl (Nat.le_of_ble_eq_true rfl) ?_
  refine k_markOf (d := 96) hM ?_
  show V g mL_law 100 702 [.ref (scB g), .ref c, .ref m, .int (nI i)] [.int _] h Q
  rw [eH]
  refine v_ald2 (q := 703) dL_law_702 rfl rfl ?_
  refine v_ald0 (q := 704) dL_law_703 rfl rfl ?_
  refine v_ild3 (q := 705) dL_law_704 rfl ?_
  refine v_iconst (q := 706) (v := 1) dL_law_705 rfl (by decide) ?_
  refine v_iadd (q := 707) dL_law_706 rfl ?_
  refine v_sld (q := 708) (i + 1) dL_law_707 rfl (nI_add i 1) (by omega) (by omega) ?_
  refine v_callV (q := 711) (d' := 98 + 1) (av := [.int (scX g (i + 1))]) dL_law_708 rfl ok_X10_markOf CL9 ml_L_91 imL_X10_markOf seL_X10_markOf hm.1 (by omega) rfl rfl (Nat.le_of_ble_eq_true rfl) ?_
  refine q_markOf (d := 98) hm hR ?_
  refine v_icmp_eq (t := 716) (q := 714) dL_law_711 (by decide) rfl (fun _ => ?_) (fun hc => absurd rfl hc)
  exact next _ ⟨ow, sp, us, uz, u, X, ws, hM.model hT, hI, hS, hm.mh, mh_mh.symm, hR, hT.mh, hl.mh⟩
end LF4
