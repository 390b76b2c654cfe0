/-! THE LAW: the cases of its switch (written by mk68.py) -/
theorem d_law_148 : decode code 148 = .ok (.aload_n 1, 1) := by decide +kernel
theorem d_law_149 : decode code 149 = .ok (.aload_n 0, 1) := by decide +kernel
theorem d_law_150 : decode code 150 = .ok (.iload_n 3, 1) := by decide +kernel
theorem d_law_151 : decode code 151 = .ok (.iconst 1, 1) := by decide +kernel
theorem d_law_152 : decode code 152 = .ok (.iadd, 1) := by decide +kernel
theorem d_law_153 : decode code 153 = .ok (.iaload, 1) := by decide +kernel
theorem d_law_154 : decode code 154 = .ok (.aload_n 0, 1) := by decide +kernel
theorem d_law_155 : decode code 155 = .ok (.iload_n 3, 1) := by decide +kernel
theorem d_law_156 : decode code 156 = .ok (.iconst 2, 1) := by decide +kernel
theorem d_law_157 : decode code 157 = .ok (.iadd, 1) := by decide +kernel
theorem d_law_158 : decode code 158 = .ok (.iaload, 1) := by decide +kernel
theorem d_law_159 : decode code 159 = .ok (.aload_n 0, 1) := by decide +kernel
theorem d_law_160 : decode code 160 = .ok (.iload_n 3, 1) := by decide +kernel
theorem d_law_161 : decode code 161 = .ok (.iconst 3, 1) := by decide +kernel
theorem d_law_162 : decode code 162 = .ok (.iadd, 1) := by decide +kernel
theorem d_law_163 : decode code 163 = .ok (.iaload, 1) := by decide +kernel
theorem d_law_164 : decode code 164 = .ok (.ifCond .eq 7, 3) := by decide +kernel
theorem d_law_167 : decode code 167 = .ok (.iconst 1, 1) := by decide +kernel
theorem d_law_168 : decode code 168 = .ok (.goto 4, 3) := by decide +kernel
theorem d_law_171 : decode code 171 = .ok (.iconst 0, 1) := by decide +kernel
theorem d_law_172 : decode code 172 = .ok (.invokevirtual 13, 3) := by decide +kernel
theorem d_law_175 : decode code 175 = .ok (.aload_n 2, 1) := by decide +kernel
theorem d_law_176 : decode code 176 = .ok (.aload_n 0, 1) := by decide +kernel
theorem d_law_177 : decode code 177 = .ok (.iload_n 3, 1) := by decide +kernel
theorem d_law_178 : decode code 178 = .ok (.iconst 1, 1) := by decide +kernel
theorem d_law_179 : decode code 179 = .ok (.iadd, 1) := by decide +kernel
theorem d_law_180 : decode code 180 = .ok (.iaload, 1) := by decide +kernel
theorem d_law_181 : decode code 181 = .ok (.aload_n 0, 1) := by decide +kernel
theorem d_law_182 : decode code 182 = .ok (.iload_n 3, 1) := by decide +kernel
theorem d_law_183 : decode code 183 = .ok (.iconst 2, 1) := by decide +kernel
theorem d_law_184 : decode code 184 = .ok (.iadd, 1) := by decide +kernel
theorem d_law_185 : decode code 185 = .ok (.iaload, 1) := by decide +kernel
theorem d_law_186 : decode code 186 = .ok (.aload_n 0, 1) := by decide +kernel
theorem d_law_187 : decode code 187 = .ok (.iload_n 3, 1) := by decide +kernel
theorem d_law_188 : decode code 188 = .ok (.iconst 3, 1) := by decide +kernel
theorem d_law_189 : decode code 189 = .ok (.iadd, 1) := by decide +kernel
theorem d_law_190 : decode code 190 = .ok (.iaload, 1) := by decide +kernel
theorem d_law_191 : decode code 191 = .ok (.ifCond .eq 7, 3) := by decide +kernel
theorem d_law_194 : decode code 194 = .ok (.iconst 1, 1) := by decide +kernel
theorem d_law_195 : decode code 195 = .ok (.goto 4, 3) := by decide +kernel
theorem d_law_198 : decode code 198 = .ok (.iconst 0, 1) := by decide +kernel
theorem d_law_199 : decode code 199 = .ok (.invokevirtual 17, 3) := by decide +kernel
theorem d_law_202 : decode code 202 = .ok (.if_icmp .eq 923, 3) := by decide +kernel
theorem d_law_207 : decode code 207 = .ok (.aload_n 1, 1) := by decide +kernel
theorem d_law_208 : decode code 208 = .ok (.aload_n 0, 1) := by decide +kernel
theorem d_law_209 : decode code 209 = .ok (.iload_n 3, 1) := by decide +kernel
theorem d_law_210 : decode code 210 = .ok (.iconst 1, 1) := by decide +kernel
theorem d_law_211 : decode code 211 = .ok (.iadd, 1) := by decide +kernel
theorem d_law_212 : decode code 212 = .ok (.iaload, 1) := by decide +kernel
theorem d_law_213 : decode code 213 = .ok (.aload_n 0, 1) := by decide +kernel
theorem d_law_214 : decode code 214 = .ok (.iload_n 3, 1) := by decide +kernel
theorem d_law_215 : decode code 215 = .ok (.iconst 2, 1) := by decide +kernel
theorem d_law_216 : decode code 216 = .ok (.iadd, 1) := by decide +kernel
theorem d_law_217 : decode code 217 = .ok (.iaload, 1) := by decide +kernel
theorem d_law_218 : decode code 218 = .ok (.invokevirtual 18, 3) := by decide +kernel
theorem d_law_221 : decode code 221 = .ok (.aload_n 2, 1) := by decide +kernel
theorem d_law_222 : decode code 222 = .ok (.aload_n 0, 1) := by decide +kernel
theorem d_law_223 : decode code 223 = .ok (.iload_n 3, 1) := by decide +kernel
theorem d_law_224 : decode code 224 = .ok (.iconst 1, 1) := by decide +kernel
theorem d_law_225 : decode code 225 = .ok (.iadd, 1) := by decide +kernel
theorem d_law_226 : decode code 226 = .ok (.iaload, 1) := by decide +kernel
theorem d_law_227 : decode code 227 = .ok (.aload_n 0, 1) := by decide +kernel
theorem d_law_228 : decode code 228 = .ok (.iload_n 3, 1) := by decide +kernel
theorem d_law_229 : decode code 229 = .ok (.iconst 2, 1) := by decide +kernel
theorem d_law_230 : decode code 230 = .ok (.iadd, 1) := by decide +kernel
theorem d_law_231 : decode code 231 = .ok (.iaload, 1) := by decide +kernel
theorem d_law_232 : decode code 232 = .ok (.invokevirtual 22, 3) := by decide +kernel
theorem d_law_235 : decode code 235 = .ok (.if_icmp .eq 890, 3) := by decide +kernel
theorem d_law_240 : decode code 240 = .ok (.aload_n 1, 1) := by decide +kernel
theorem d_law_241 : decode code 241 = .ok (.aload_n 0, 1) := by decide +kernel
theorem d_law_242 : decode code 242 = .ok (.iload_n 3, 1) := by decide +kernel
theorem d_law_243 : decode code 243 = .ok (.iconst 1, 1) := by decide +kernel
theorem d_law_244 : decode code 244 = .ok (.iadd, 1) := by decide +kernel
theorem d_law_245 : decode code 245 = .ok (.iaload, 1) := by decide +kernel
theorem d_law_246 : decode code 246 = .ok (.aload_n 0, 1) := by decide +kernel
theorem d_law_247 : decode code 247 = .ok (.iload_n 3, 1) := by decide +kernel
theorem d_law_248 : decode code 248 = .ok (.iconst 2, 1) := by decide +kernel
theorem d_law_249 : decode code 249 = .ok (.iadd, 1) := by decide +kernel
theorem d_law_250 : decode code 250 = .ok (.iaload, 1) := by decide +kernel
theorem d_law_251 : decode code 251 = .ok (.aload_n 0, 1) := by decide +kernel
theorem d_law_252 : decode code 252 = .ok (.iload_n 3, 1) := by decide +kernel
theorem d_law_253 : decode code 253 = .ok (.iconst 3, 1) := by decide +kernel
theorem d_law_254 : decode code 254 = .ok (.iadd, 1) := by decide +kernel
theorem d_law_255 : decode code 255 = .ok (.iaload, 1) := by decide +kernel
theorem d_law_256 : decode code 256 = .ok (.invokevirtual 23, 3) := by decide +kernel
theorem d_law_259 : decode code 259 = .ok (.aload_n 2, 1) := by decide +kernel
theorem d_law_260 : decode code 260 = .ok (.aload_n 0, 1) := by decide +kernel
theorem d_law_261 : decode code 261 = .ok (.iload_n 3, 1) := by decide +kernel
theorem d_law_262 : decode code 262 = .ok (.iconst 1, 1) := by decide +kernel
theorem d_law_263 : decode code 263 = .ok (.iadd, 1) := by decide +kernel
theorem d_law_264 : decode code 264 = .ok (.iaload, 1) := by decide +kernel
theorem d_law_265 : decode code 265 = .ok (.aload_n 0, 1) := by decide +kernel
theorem d_law_266 : decode code 266 = .ok (.iload_n 3, 1) := by decide +kernel
theorem d_law_267 : decode code 267 = .ok (.iconst 2, 1) := by decide +kernel
theorem d_law_268 : decode code 268 = .ok (.iadd, 1) := by decide +kernel
theorem d_law_269 : decode code 269 = .ok (.iaload, 1) := by decide +kernel
theorem d_law_270 : decode code 270 = .ok (.aload_n 0, 1) := by decide +kernel
theorem d_law_271 : decode code 271 = .ok (.iload_n 3, 1) := by decide +kernel
theorem d_law_272 : decode code 272 = .ok (.iconst 3, 1) := by decide +kernel
theorem d_law_273 : decode code 273 = .ok (.iadd, 1) := by decide +kernel
theorem d_law_274 : decode code 274 = .ok (.iaload, 1) := by decide +kernel
theorem d_law_275 : decode code 275 = .ok (.invokevirtual 27, 3) := by decide +kernel
theorem d_law_278 : decode code 278 = .ok (.if_icmp .eq 847, 3) := by decide +kernel
theorem d_law_283 : decode code 283 = .ok (.aload_n 1, 1) := by decide +kernel
theorem d_law_284 : decode code 284 = .ok (.aload_n 0, 1) := by decide +kernel
theorem d_law_285 : decode code 285 = .ok (.iload_n 3, 1) := by decide +kernel
theorem d_law_286 : decode code 286 = .ok (.iconst 1, 1) := by decide +kernel
theorem d_law_287 : decode code 287 = .ok (.iadd, 1) := by decide +kernel
theorem d_law_288 : decode code 288 = .ok (.iaload, 1) := by decide +kernel
theorem d_law_289 : decode code 289 = .ok (.invokevirtual 28, 3) := by decide +kernel
theorem d_law_292 : decode code 292 = .ok (.aload_n 2, 1) := by decide +kernel
theorem d_law_293 : decode code 293 = .ok (.aload_n 0, 1) := by decide +kernel
theorem d_law_294 : decode code 294 = .ok (.iload_n 3, 1) := by decide +kernel
theorem d_law_295 : decode code 295 = .ok (.iconst 1, 1) := by decide +kernel
theorem d_law_296 : decode code 296 = .ok (.iadd, 1) := by decide +kernel
theorem d_law_297 : decode code 297 = .ok (.iaload, 1) := by decide +kernel
theorem d_law_298 : decode code 298 = .ok (.invokevirtual 32, 3) := by decide +kernel
theorem d_law_301 : decode code 301 = .ok (.if_icmp .eq 824, 3) := by decide +kernel
theorem d_law_306 : decode code 306 = .ok (.aload_n 1, 1) := by decide +kernel
theorem d_law_307 : decode code 307 = .ok (.aload_n 0, 1) := by decide +kernel
theorem d_law_308 : decode code 308 = .ok (.iload_n 3, 1) := by decide +kernel
theorem d_law_309 : decode code 309 = .ok (.iconst 1, 1) := by decide +kernel
theorem d_law_310 : decode code 310 = .ok (.iadd, 1) := by decide +kernel
theorem d_law_311 : decode code 311 = .ok (.iaload, 1) := by decide +kernel
theorem d_law_312 : decode code 312 = .ok (.aload_n 0, 1) := by decide +kernel
theorem d_law_313 : decode code 313 = .ok (.iload_n 3, 1) := by decide +kernel
theorem d_law_314 : decode code 314 = .ok (.iconst 2, 1) := by decide +kernel
theorem d_law_315 : decode code 315 = .ok (.iadd, 1) := by decide +kernel
theorem d_law_316 : decode code 316 = .ok (.iaload, 1) := by decide +kernel
theorem d_law_317 : decode code 317 = .ok (.invokevirtual 33, 3) := by decide +kernel
theorem d_law_320 : decode code 320 = .ok (.aload_n 2, 1) := by decide +kernel
theorem d_law_321 : decode code 321 = .ok (.aload_n 0, 1) := by decide +kernel
theorem d_law_322 : decode code 322 = .ok (.iload_n 3, 1) := by decide +kernel
theorem d_law_323 : decode code 323 = .ok (.iconst 1, 1) := by decide +kernel
theorem d_law_324 : decode code 324 = .ok (.iadd, 1) := by decide +kernel
theorem d_law_325 : decode code 325 = .ok (.iaload, 1) := by decide +kernel
theorem d_law_326 : decode code 326 = .ok (.aload_n 0, 1) := by decide +kernel
theorem d_law_327 : decode code 327 = .ok (.iload_n 3, 1) := by decide +kernel
theorem d_law_328 : decode code 328 = .ok (.iconst 2, 1) := by decide +kernel
theorem d_law_329 : decode code 329 = .ok (.iadd, 1) := by decide +kernel
theorem d_law_330 : decode code 330 = .ok (.iaload, 1) := by decide +kernel
theorem d_law_331 : decode code 331 = .ok (.invokevirtual 36, 3) := by decide +kernel
theorem d_law_334 : decode code 334 = .ok (.if_icmp .eq 791, 3) := by decide +kernel
set_option maxRecDepth 100000 in
set_option maxHeartbeats 4000000 in
theorem law_0 {p : Program} {l : Launch} {e : Env} {s : State} {m : MethodId} {below : List Frame} {meth : Method} {c : Code} {b L : Nat} {xs : Nat → Int32} {D : va_G} {ca : Nat → ClassId} {adX adM : Nat → Nat} (E : lw_E p s m c b D ca adX adM) (hX : va_X b L xs s s.heap) (hbl : b < s.heap.size) {i : Int32} (hi : ∀ k : Nat, k < 8 → vp_in (i + nI k) L) {A : am_A} {cn : Nat} (hcn : cn + 4096 ≤ 1073741824) {H : Heap} {locs : List Loc} {ls : Array Slot} (hl : lv_has ls 4 [(0, .ref b), (1, .ref (adX 0)), (2, .ref (adM 0)), (3, .int i)]) (hSt : lw_St s D ca adX adM (fun I L => CR I L A) (fun I L => MR I L A cn) H locs)
    (kk : ∀ (A2 : am_A) (c2 : Nat) (H2 : Heap) (locs2 : List Loc), c2 ≤ cn + 4096 → lw_St s D ca adX adM (fun I L => CR I L A2) (fun I L => MR I L A2 c2) H2 locs2 → W p l e room_1 s m #[Value.ref b] below meth c H2 locs2 600000 7302250 (lw_Z below #[Value.ref b] s) (F0 m 1125 ls [])) : W p l e room_1 s m #[Value.ref b] below meth c H locs 600000 7302250 (lw_Z below #[Value.ref b] s) (F0 m 148 ls []) := by
  obtain ⟨hx, hb, hml, hown, hU, hN, hK, hD⟩ := id E
  have hbA : ¬ (fun q : Nat => s.heap.size ≤ q) b := Nat.not_le.mpr hbl
  have hS := hSt.S
  have hi1 : vp_in (i + 1) L := hi 1 (by omega)
  have hi2 : vp_in (i + 2) L := hi 2 (by omega)
  have hi3 : vp_in (i + 3) L := hi 3 (by omega)
  refine lv_aload_n hx hb d_law_148 rfl (lv_at hl 1 rfl) ?_
  refine lv_aload_n hx hb d_law_149 rfl (lv_at hl 0 rfl) ?_
  refine lv_iload_n hx hb d_law_150 rfl (lv_at hl 3 rfl) ?_
  refine lv_iconst (v := 1) hx hb d_law_151 (by decide) ?_
  refine lv_iadd hx hb d_law_152 ?_
  refine va_sld hx hb hX hbl hbA hS hi1 d_law_153 ?_
  refine lv_aload_n hx hb d_law_154 rfl (lv_at hl 0 rfl) ?_
  refine lv_iload_n hx hb d_law_155 rfl (lv_at hl 3 rfl) ?_
  refine lv_iconst (v := 2) hx hb d_law_156 (by decide) ?_
  refine lv_iadd hx hb d_law_157 ?_
  refine va_sld hx hb hX hbl hbA hS hi2 d_law_158 ?_
  refine lv_aload_n hx hb d_law_159 rfl (lv_at hl 0 rfl) ?_
  refine lv_iload_n hx hb d_law_160 rfl (lv_at hl 3 rfl) ?_
  refine lv_iconst (v := 3) hx hb d_law_161 (by decide) ?_
  refine lv_iadd hx hb d_law_162 ?_
  refine va_sld hx hb hX hbl hbA hS hi3 d_law_163 ?_
  refine lv_if_eq (tgt := 171) hx hb d_law_164 (by decide) (fun hz => ?_) (fun hz => ?_)
  · refine lv_iconst (v := 0) hx hb d_law_171 (by decide) ?_
    refine lw_cX E (n := 3) met_RP_way (am_pos 227 (by decide +kernel) rfl) (am_pos 228 (by decide +kernel) rfl) (am_pos 229 (by decide +kernel) rfl) (am_pos 35 (by decide +kernel) rfl) (am_pos 230 (by decide +kernel) rfl) ⟨by decide +kernel, by decide +kernel, by decide +kernel⟩ rfl rfl ⟨Nat.le_of_ble_eq_true rfl, Nat.le_of_ble_eq_true rfl⟩ rfl (t := [.int (xs (i + 1).toNatClampNeg), .int (xs (i + 2).toNatClampNeg), .int 0]) (r := []) (PX' := fun I L => CR I L (o_way A ((xs (i + 1).toNatClampNeg)) ((xs (i + 2).toNatClampNeg)) (0)).2) (rv := (o_way A ((xs (i + 1).toNatClampNeg)) ((xs (i + 2).toNatClampNeg)) (0)).1) d_law_172 rfl rfl (Nat.le_of_ble_eq_true rfl) hl.1 (fun I L hC => ⟨rfl, A, hC, fun I2 L2 h => ⟨rfl, h⟩⟩) hSt ⟨Nat.le_refl _, Nat.le_refl _⟩ (fun H locs hSt => ?_)
    have hS := hSt.S
    refine lv_aload_n hx hb d_law_175 rfl (lv_at hl 2 rfl) ?_
    refine lv_aload_n hx hb d_law_176 rfl (lv_at hl 0 rfl) ?_
    refine lv_iload_n hx hb d_law_177 rfl (lv_at hl 3 rfl) ?_
    refine lv_iconst (v := 1) hx hb d_law_178 (by decide) ?_
    refine lv_iadd hx hb d_law_179 ?_
    refine va_sld hx hb hX hbl hbA hS hi1 d_law_180 ?_
    refine lv_aload_n hx hb d_law_181 rfl (lv_at hl 0 rfl) ?_
    refine lv_iload_n hx hb d_law_182 rfl (lv_at hl 3 rfl) ?_
    refine lv_iconst (v := 2) hx hb d_law_183 (by decide) ?_
    refine lv_iadd hx hb d_law_184 ?_
    refine va_sld hx hb hX hbl hbA hS hi2 d_law_185 ?_
    refine lv_aload_n hx hb d_law_186 rfl (lv_at hl 0 rfl) ?_
    refine lv_iload_n hx hb d_law_187 rfl (lv_at hl 3 rfl) ?_
    refine lv_iconst (v := 3) hx hb d_law_188 (by decide) ?_
    refine lv_iadd hx hb d_law_189 ?_
    refine va_sld hx hb hX hbl hbA hS hi3 d_law_190 ?_
    refine lv_if_eq (tgt := 198) hx hb d_law_191 (by decide) (fun _ => ?_) (fun q => absurd hz q)
    refine lv_iconst (v := 0) hx hb d_law_198 (by decide) ?_
    refine lw_cM E (n := 3) met_MD_way (am_pos 668 (by decide +kernel) rfl) (am_pos 669 (by decide +kernel) rfl) (am_pos 670 (by decide +kernel) rfl) (am_pos 41 (by decide +kernel) rfl) (am_pos 671 (by decide +kernel) rfl) ⟨by decide +kernel, by decide +kernel, by decide +kernel⟩ rfl rfl ⟨Nat.le_of_ble_eq_true rfl, Nat.le_of_ble_eq_true rfl⟩ rfl (t := [.int (xs (i + 1).toNatClampNeg), .int (xs (i + 2).toNatClampNeg), .int 0]) (r := [.int ((o_way A ((xs (i + 1).toNatClampNeg)) ((xs (i + 2).toNatClampNeg)) (0)).1)]) (PM' := fun I L => ∃ c2, c2 ≤ cn + 4096 ∧ MR I L (o_way A ((xs (i + 1).toNatClampNeg)) ((xs (i + 2).toNatClampNeg)) (0)).2 c2) (rv := (o_way A ((xs (i + 1).toNatClampNeg)) ((xs (i + 2).toNatClampNeg)) (0)).1) d_law_199 rfl rfl (Nat.le_of_ble_eq_true rfl) hl.1 (fun I L hC => ⟨rfl, A, cn, hC, hcn, fun I2 L2 c2 h1 h2 => ⟨rfl, c2, h1, h2⟩⟩) hSt ⟨Nat.le_refl _, Nat.le_refl _⟩ (fun H locs hSt => ?_)
    have hS := hSt.S
    refine lv_icmp_eq (tgt := 1125) hx hb d_law_202 (by decide) (fun _ => ?_) (fun q => absurd rfl q)
    obtain ⟨IX, LX, IM, LM, a1, ⟨c2, b1, b2⟩, a3, a4, a5⟩ := hSt
    exact kk _ c2 _ _ b1 ⟨IX, LX, IM, LM, a1, b2, a3, a4, a5⟩
  · refine lv_iconst (v := 1) hx hb d_law_167 (by decide) ?_
    refine lv_goto (tgt := 172) hx hb d_law_168 (by decide) ?_
    refine lw_cX E (n := 3) met_RP_way (am_pos 227 (by decide +kernel) rfl) (am_pos 228 (by decide +kernel) rfl) (am_pos 229 (by decide +kernel) rfl) (am_pos 35 (by decide +kernel) rfl) (am_pos 230 (by decide +kernel) rfl) ⟨by decide +kernel, by decide +kernel, by decide +kernel⟩ rfl rfl ⟨Nat.le_of_ble_eq_true rfl, Nat.le_of_ble_eq_true rfl⟩ rfl (t := [.int (xs (i + 1).toNatClampNeg), .int (xs (i + 2).toNatClampNeg), .int 1]) (r := []) (PX' := fun I L => CR I L (o_way A ((xs (i + 1).toNatClampNeg)) ((xs (i + 2).toNatClampNeg)) (1)).2) (rv := (o_way A ((xs (i + 1).toNatClampNeg)) ((xs (i + 2).toNatClampNeg)) (1)).1) d_law_172 rfl rfl (Nat.le_of_ble_eq_true rfl) hl.1 (fun I L hC => ⟨rfl, A, hC, fun I2 L2 h => ⟨rfl, h⟩⟩) hSt ⟨Nat.le_refl _, Nat.le_refl _⟩ (fun H locs hSt => ?_)
    have hS := hSt.S
    refine lv_aload_n hx hb d_law_175 rfl (lv_at hl 2 rfl) ?_
    refine lv_aload_n hx hb d_law_176 rfl (lv_at hl 0 rfl) ?_
    refine lv_iload_n hx hb d_law_177 rfl (lv_at hl 3 rfl) ?_
    refine lv_iconst (v := 1) hx hb d_law_178 (by decide) ?_
    refine lv_iadd hx hb d_law_179 ?_
    refine va_sld hx hb hX hbl hbA hS hi1 d_law_180 ?_
    refine lv_aload_n hx hb d_law_181 rfl (lv_at hl 0 rfl) ?_
    refine lv_iload_n hx hb d_law_182 rfl (lv_at hl 3 rfl) ?_
    refine lv_iconst (v := 2) hx hb d_law_183 (by decide) ?_
    refine lv_iadd hx hb d_law_184 ?_
    refine va_sld hx hb hX hbl hbA hS hi2 d_law_185 ?_
    refine lv_aload_n hx hb d_law_186 rfl (lv_at hl 0 rfl) ?_
    refine lv_iload_n hx hb d_law_187 rfl (lv_at hl 3 rfl) ?_
    refine lv_iconst (v := 3) hx hb d_law_188 (by decide) ?_
    refine lv_iadd hx hb d_law_189 ?_
    refine va_sld hx hb hX hbl hbA hS hi3 d_law_190 ?_
    refine lv_if_eq (tgt := 198) hx hb d_law_191 (by decide) (fun q => absurd q hz) (fun _ => ?_)
    refine lv_iconst (v := 1) hx hb d_law_194 (by decide) ?_
    refine lv_goto (tgt := 199) hx hb d_law_195 (by decide) ?_
    refine lw_cM E (n := 3) met_MD_way (am_pos 668 (by decide +kernel) rfl) (am_pos 669 (by decide +kernel) rfl) (am_pos 670 (by decide +kernel) rfl) (am_pos 41 (by decide +kernel) rfl) (am_pos 671 (by decide +kernel) rfl) ⟨by decide +kernel, by decide +kernel, by decide +kernel⟩ rfl rfl ⟨Nat.le_of_ble_eq_true rfl, Nat.le_of_ble_eq_true rfl⟩ rfl (t := [.int (xs (i + 1).toNatClampNeg), .int (xs (i + 2).toNatClampNeg), .int 1]) (r := [.int ((o_way A ((xs (i + 1).toNatClampNeg)) ((xs (i + 2).toNatClampNeg)) (1)).1)]) (PM' := fun I L => ∃ c2, c2 ≤ cn + 4096 ∧ MR I L (o_way A ((xs (i + 1).toNatClampNeg)) ((xs (i + 2).toNatClampNeg)) (1)).2 c2) (rv := (o_way A ((xs (i + 1).toNatClampNeg)) ((xs (i + 2).toNatClampNeg)) (1)).1) d_law_199 rfl rfl (Nat.le_of_ble_eq_true rfl) hl.1 (fun I L hC => ⟨rfl, A, cn, hC, hcn, fun I2 L2 c2 h1 h2 => ⟨rfl, c2, h1, h2⟩⟩) hSt ⟨Nat.le_refl _, Nat.le_refl _⟩ (fun H locs hSt => ?_)
    have hS := hSt.S
    refine lv_icmp_eq (tgt := 1125) hx hb d_law_202 (by decide) (fun _ => ?_) (fun q => absurd rfl q)
    obtain ⟨IX, LX, IM, LM, a1, ⟨c2, b1, b2⟩, a3, a4, a5⟩ := hSt
    exact kk _ c2 _ _ b1 ⟨IX, LX, IM, LM, a1, b2, a3, a4, a5⟩
set_option maxRecDepth 100000 in
set_option maxHeartbeats 4000000 in
theorem law_1 {p : Program} {l : Launch} {e : Env} {s : State} {m : MethodId} {below : List Frame} {meth : Method} {c : Code} {b L : Nat} {xs : Nat → Int32} {D : va_G} {ca : Nat → ClassId} {adX adM : Nat → Nat} (E : lw_E p s m c b D ca adX adM) (hX : va_X b L xs s s.heap) (hbl : b < s.heap.size) {i : Int32} (hi : ∀ k : Nat, k < 8 → vp_in (i + nI k) L) {A : am_A} {cn : Nat} (hcn : cn + 4096 ≤ 1073741824) {H : Heap} {locs : List Loc} {ls : Array Slot} (hl : lv_has ls 4 [(0, .ref b), (1, .ref (adX 0)), (2, .ref (adM 0)), (3, .int i)]) (hSt : lw_St s D ca adX adM (fun I L => CR I L A) (fun I L => MR I L A cn) H locs)
    (kk : ∀ (A2 : am_A) (c2 : Nat) (H2 : Heap) (locs2 : List Loc), c2 ≤ cn + 4096 → lw_St s D ca adX adM (fun I L => CR I L A2) (fun I L => MR I L A2 c2) H2 locs2 → W p l e room_1 s m #[Value.ref b] below meth c H2 locs2 600000 7302250 (lw_Z below #[Value.ref b] s) (F0 m 1125 ls [])) : W p l e room_1 s m #[Value.ref b] below meth c H locs 600000 7302250 (lw_Z below #[Value.ref b] s) (F0 m 207 ls []) := by
  obtain ⟨hx, hb, hml, hown, hU, hN, hK, hD⟩ := id E
  have hbA : ¬ (fun q : Nat => s.heap.size ≤ q) b := Nat.not_le.mpr hbl
  have hS := hSt.S
  have hi1 : vp_in (i + 1) L := hi 1 (by omega)
  have hi2 : vp_in (i + 2) L := hi 2 (by omega)
  refine lv_aload_n hx hb d_law_207 rfl (lv_at hl 1 rfl) ?_
  refine lv_aload_n hx hb d_law_208 rfl (lv_at hl 0 rfl) ?_
  refine lv_iload_n hx hb d_law_209 rfl (lv_at hl 3 rfl) ?_
  refine lv_iconst (v := 1) hx hb d_law_210 (by decide) ?_
  refine lv_iadd hx hb d_law_211 ?_
  refine va_sld hx hb hX hbl hbA hS hi1 d_law_212 ?_
  refine lv_aload_n hx hb d_law_213 rfl (lv_at hl 0 rfl) ?_
  refine lv_iload_n hx hb d_law_214 rfl (lv_at hl 3 rfl) ?_
  refine lv_iconst (v := 2) hx hb d_law_215 (by decide) ?_
  refine lv_iadd hx hb d_law_216 ?_
  refine va_sld hx hb hX hbl hbA hS hi2 d_law_217 ?_
  refine lw_cX E (n := 2) met_RP_told (am_pos 260 (by decide +kernel) rfl) (am_pos 261 (by decide +kernel) rfl) (am_pos 262 (by decide +kernel) rfl) (am_pos 35 (by decide +kernel) rfl) (am_pos 263 (by decide +kernel) rfl) ⟨by decide +kernel, by decide +kernel, by decide +kernel⟩ rfl rfl ⟨Nat.le_of_ble_eq_true rfl, Nat.le_of_ble_eq_true rfl⟩ rfl (t := [.int (xs (i + 1).toNatClampNeg), .int (xs (i + 2).toNatClampNeg)]) (r := []) (PX' := fun I L => CR I L (o_told A ((xs (i + 1).toNatClampNeg)) ((xs (i + 2).toNatClampNeg))).2) (rv := (o_told A ((xs (i + 1).toNatClampNeg)) ((xs (i + 2).toNatClampNeg))).1) d_law_218 rfl rfl (Nat.le_of_ble_eq_true rfl) hl.1 (fun I L hC => ⟨rfl, A, hC, fun I2 L2 h => ⟨rfl, h⟩⟩) hSt ⟨Nat.le_refl _, Nat.le_refl _⟩ (fun H locs hSt => ?_)
  have hS := hSt.S
  refine lv_aload_n hx hb d_law_221 rfl (lv_at hl 2 rfl) ?_
  refine lv_aload_n hx hb d_law_222 rfl (lv_at hl 0 rfl) ?_
  refine lv_iload_n hx hb d_law_223 rfl (lv_at hl 3 rfl) ?_
  refine lv_iconst (v := 1) hx hb d_law_224 (by decide) ?_
  refine lv_iadd hx hb d_law_225 ?_
  refine va_sld hx hb hX hbl hbA hS hi1 d_law_226 ?_
  refine lv_aload_n hx hb d_law_227 rfl (lv_at hl 0 rfl) ?_
  refine lv_iload_n hx hb d_law_228 rfl (lv_at hl 3 rfl) ?_
  refine lv_iconst (v := 2) hx hb d_law_229 (by decide) ?_
  refine lv_iadd hx hb d_law_230 ?_
  refine va_sld hx hb hX hbl hbA hS hi2 d_law_231 ?_
  refine lw_cM E (n := 2) met_MD_told (am_pos 686 (by decide +kernel) rfl) (am_pos 687 (by decide +kernel) rfl) (am_pos 688 (by decide +kernel) rfl) (am_pos 41 (by decide +kernel) rfl) (am_pos 689 (by decide +kernel) rfl) ⟨by decide +kernel, by decide +kernel, by decide +kernel⟩ rfl rfl ⟨Nat.le_of_ble_eq_true rfl, Nat.le_of_ble_eq_true rfl⟩ rfl (t := [.int (xs (i + 1).toNatClampNeg), .int (xs (i + 2).toNatClampNeg)]) (r := [.int ((o_told A ((xs (i + 1).toNatClampNeg)) ((xs (i + 2).toNatClampNeg))).1)]) (PM' := fun I L => ∃ c2, c2 ≤ cn + 4096 ∧ MR I L (o_told A ((xs (i + 1).toNatClampNeg)) ((xs (i + 2).toNatClampNeg))).2 c2) (rv := (o_told A ((xs (i + 1).toNatClampNeg)) ((xs (i + 2).toNatClampNeg))).1) d_law_232 rfl rfl (Nat.le_of_ble_eq_true rfl) hl.1 (fun I L hC => ⟨rfl, A, cn, hC, hcn, fun I2 L2 c2 h1 h2 => ⟨rfl, c2, h1, h2⟩⟩) hSt ⟨Nat.le_refl _, Nat.le_refl _⟩ (fun H locs hSt => ?_)
  have hS := hSt.S
  refine lv_icmp_eq (tgt := 1125) hx hb d_law_235 (by decide) (fun _ => ?_) (fun q => absurd rfl q)
  obtain ⟨IX, LX, IM, LM, a1, ⟨c2, b1, b2⟩, a3, a4, a5⟩ := hSt
  exact kk _ c2 _ _ b1 ⟨IX, LX, IM, LM, a1, b2, a3, a4, a5⟩
set_option maxRecDepth 100000 in
set_option maxHeartbeats 4000000 in
theorem law_2 {p : Program} {l : Launch} {e : Env} {s : State} {m : MethodId} {below : List Frame} {meth : Method} {c : Code} {b L : Nat} {xs : Nat → Int32} {D : va_G} {ca : Nat → ClassId} {adX adM : Nat → Nat} (E : lw_E p s m c b D ca adX adM) (hX : va_X b L xs s s.heap) (hbl : b < s.heap.size) {i : Int32} (hi : ∀ k : Nat, k < 8 → vp_in (i + nI k) L) {A : am_A} {cn : Nat} (hcn : cn + 4096 ≤ 1073741824) {H : Heap} {locs : List Loc} {ls : Array Slot} (hl : lv_has ls 4 [(0, .ref b), (1, .ref (adX 0)), (2, .ref (adM 0)), (3, .int i)]) (hSt : lw_St s D ca adX adM (fun I L => CR I L A) (fun I L => MR I L A cn) H locs)
    (kk : ∀ (A2 : am_A) (c2 : Nat) (H2 : Heap) (locs2 : List Loc), c2 ≤ cn + 4096 → lw_St s D ca adX adM (fun I L => CR I L A2) (fun I L => MR I L A2 c2) H2 locs2 → W p l e room_1 s m #[Value.ref b] below meth c H2 locs2 600000 7302250 (lw_Z below #[Value.ref b] s) (F0 m 1125 ls [])) : W p l e room_1 s m #[Value.ref b] below meth c H locs 600000 7302250 (lw_Z below #[Value.ref b] s) (F0 m 240 ls []) := by
  obtain ⟨hx, hb, hml, hown, hU, hN, hK, hD⟩ := id E
  have hbA : ¬ (fun q : Nat => s.heap.size ≤ q) b := Nat.not_le.mpr hbl
  have hS := hSt.S
  have hi1 : vp_in (i + 1) L := hi 1 (by omega)
  have hi2 : vp_in (i + 2) L := hi 2 (by omega)
  have hi3 : vp_in (i + 3) L := hi 3 (by omega)
  refine lv_aload_n hx hb d_law_240 rfl (lv_at hl 1 rfl) ?_
  refine lv_aload_n hx hb d_law_241 rfl (lv_at hl 0 rfl) ?_
  refine lv_iload_n hx hb d_law_242 rfl (lv_at hl 3 rfl) ?_
  refine lv_iconst (v := 1) hx hb d_law_243 (by decide) ?_
  refine lv_iadd hx hb d_law_244 ?_
  refine va_sld hx hb hX hbl hbA hS hi1 d_law_245 ?_
  refine lv_aload_n hx hb d_law_246 rfl (lv_at hl 0 rfl) ?_
  refine lv_iload_n hx hb d_law_247 rfl (lv_at hl 3 rfl) ?_
  refine lv_iconst (v := 2) hx hb d_law_248 (by decide) ?_
  refine lv_iadd hx hb d_law_249 ?_
  refine va_sld hx hb hX hbl hbA hS hi2 d_law_250 ?_
  refine lv_aload_n hx hb d_law_251 rfl (lv_at hl 0 rfl) ?_
  refine lv_iload_n hx hb d_law_252 rfl (lv_at hl 3 rfl) ?_
  refine lv_iconst (v := 3) hx hb d_law_253 (by decide) ?_
  refine lv_iadd hx hb d_law_254 ?_
  refine va_sld hx hb hX hbl hbA hS hi3 d_law_255 ?_
  refine lw_cX E (n := 3) met_RP_stone (am_pos 280 (by decide +kernel) rfl) (am_pos 281 (by decide +kernel) rfl) (am_pos 282 (by decide +kernel) rfl) (am_pos 35 (by decide +kernel) rfl) (am_pos 283 (by decide +kernel) rfl) ⟨by decide +kernel, by decide +kernel, by decide +kernel⟩ rfl rfl ⟨Nat.le_of_ble_eq_true rfl, Nat.le_of_ble_eq_true rfl⟩ rfl (t := [.int (xs (i + 1).toNatClampNeg), .int (xs (i + 2).toNatClampNeg), .int (xs (i + 3).toNatClampNeg)]) (r := []) (PX' := fun I L => CR I L (o_stone A ((xs (i + 1).toNatClampNeg)) ((xs (i + 2).toNatClampNeg)) ((xs (i + 3).toNatClampNeg))).2) (rv := (o_stone A ((xs (i + 1).toNatClampNeg)) ((xs (i + 2).toNatClampNeg)) ((xs (i + 3).toNatClampNeg))).1) d_law_256 rfl rfl (Nat.le_of_ble_eq_true rfl) hl.1 (fun I L hC => ⟨rfl, A, hC, fun I2 L2 h => ⟨rfl, h⟩⟩) hSt ⟨Nat.le_refl _, Nat.le_refl _⟩ (fun H locs hSt => ?_)
  have hS := hSt.S
  refine lv_aload_n hx hb d_law_259 rfl (lv_at hl 2 rfl) ?_
  refine lv_aload_n hx hb d_law_260 rfl (lv_at hl 0 rfl) ?_
  refine lv_iload_n hx hb d_law_261 rfl (lv_at hl 3 rfl) ?_
  refine lv_iconst (v := 1) hx hb d_law_262 (by decide) ?_
  refine lv_iadd hx hb d_law_263 ?_
  refine va_sld hx hb hX hbl hbA hS hi1 d_law_264 ?_
  refine lv_aload_n hx hb d_law_265 rfl (lv_at hl 0 rfl) ?_
  refine lv_iload_n hx hb d_law_266 rfl (lv_at hl 3 rfl) ?_
  refine lv_iconst (v := 2) hx hb d_law_267 (by decide) ?_
  refine lv_iadd hx hb d_law_268 ?_
  refine va_sld hx hb hX hbl hbA hS hi2 d_law_269 ?_
  refine lv_aload_n hx hb d_law_270 rfl (lv_at hl 0 rfl) ?_
  refine lv_iload_n hx hb d_law_271 rfl (lv_at hl 3 rfl) ?_
  refine lv_iconst (v := 3) hx hb d_law_272 (by decide) ?_
  refine lv_iadd hx hb d_law_273 ?_
  refine va_sld hx hb hX hbl hbA hS hi3 d_law_274 ?_
  refine lw_cM E (n := 3) met_MD_stone (am_pos 695 (by decide +kernel) rfl) (am_pos 696 (by decide +kernel) rfl) (am_pos 697 (by decide +kernel) rfl) (am_pos 41 (by decide +kernel) rfl) (am_pos 698 (by decide +kernel) rfl) ⟨by decide +kernel, by decide +kernel, by decide +kernel⟩ rfl rfl ⟨Nat.le_of_ble_eq_true rfl, Nat.le_of_ble_eq_true rfl⟩ rfl (t := [.int (xs (i + 1).toNatClampNeg), .int (xs (i + 2).toNatClampNeg), .int (xs (i + 3).toNatClampNeg)]) (r := [.int ((o_stone A ((xs (i + 1).toNatClampNeg)) ((xs (i + 2).toNatClampNeg)) ((xs (i + 3).toNatClampNeg))).1)]) (PM' := fun I L => ∃ c2, c2 ≤ cn + 4096 ∧ MR I L (o_stone A ((xs (i + 1).toNatClampNeg)) ((xs (i + 2).toNatClampNeg)) ((xs (i + 3).toNatClampNeg))).2 c2) (rv := (o_stone A ((xs (i + 1).toNatClampNeg)) ((xs (i + 2).toNatClampNeg)) ((xs (i + 3).toNatClampNeg))).1) d_law_275 rfl rfl (Nat.le_of_ble_eq_true rfl) hl.1 (fun I L hC => ⟨rfl, A, cn, hC, hcn, fun I2 L2 c2 h1 h2 => ⟨rfl, c2, h1, h2⟩⟩) hSt ⟨Nat.le_refl _, Nat.le_refl _⟩ (fun H locs hSt => ?_)
  have hS := hSt.S
  refine lv_icmp_eq (tgt := 1125) hx hb d_law_278 (by decide) (fun _ => ?_) (fun q => absurd rfl q)
  obtain ⟨IX, LX, IM, LM, a1, ⟨c2, b1, b2⟩, a3, a4, a5⟩ := hSt
  exact kk _ c2 _ _ b1 ⟨IX, LX, IM, LM, a1, b2, a3, a4, a5⟩
set_option maxRecDepth 100000 in
set_option maxHeartbeats 4000000 in
theorem law_3 {p : Program} {l : Launch} {e : Env} {s : State} {m : MethodId} {below : List Frame} {meth : Method} {c : Code} {b L : Nat} {xs : Nat → Int32} {D : va_G} {ca : Nat → ClassId} {adX adM : Nat → Nat} (E : lw_E p s m c b D ca adX adM) (hX : va_X b L xs s s.heap) (hbl : b < s.heap.size) {i : Int32} (hi : ∀ k : Nat, k < 8 → vp_in (i + nI k) L) {A : am_A} {cn : Nat} (hcn : cn + 4096 ≤ 1073741824) {H : Heap} {locs : List Loc} {ls : Array Slot} (hl : lv_has ls 4 [(0, .ref b), (1, .ref (adX 0)), (2, .ref (adM 0)), (3, .int i)]) (hSt : lw_St s D ca adX adM (fun I L => CR I L A) (fun I L => MR I L A cn) H locs)
    (kk : ∀ (A2 : am_A) (c2 : Nat) (H2 : Heap) (locs2 : List Loc), c2 ≤ cn + 4096 → lw_St s D ca adX adM (fun I L => CR I L A2) (fun I L => MR I L A2 c2) H2 locs2 → W p l e room_1 s m #[Value.ref b] below meth c H2 locs2 600000 7302250 (lw_Z below #[Value.ref b] s) (F0 m 1125 ls [])) : W p l e room_1 s m #[Value.ref b] below meth c H locs 600000 7302250 (lw_Z below #[Value.ref b] s) (F0 m 283 ls []) := by
  obtain ⟨hx, hb, hml, hown, hU, hN, hK, hD⟩ := id E
  have hbA : ¬ (fun q : Nat => s.heap.size ≤ q) b := Nat.not_le.mpr hbl
  have hS := hSt.S
  have hi1 : vp_in (i + 1) L := hi 1 (by omega)
  refine lv_aload_n hx hb d_law_283 rfl (lv_at hl 1 rfl) ?_
  refine lv_aload_n hx hb d_law_284 rfl (lv_at hl 0 rfl) ?_
  refine lv_iload_n hx hb d_law_285 rfl (lv_at hl 3 rfl) ?_
  refine lv_iconst (v := 1) hx hb d_law_286 (by decide) ?_
  refine lv_iadd hx hb d_law_287 ?_
  refine va_sld hx hb hX hbl hbA hS hi1 d_law_288 ?_
  refine lw_cX E (n := 1) met_RP_strike (am_pos 289 (by decide +kernel) rfl) (am_pos 290 (by decide +kernel) rfl) (am_pos 291 (by decide +kernel) rfl) (am_pos 35 (by decide +kernel) rfl) (am_pos 292 (by decide +kernel) rfl) ⟨by decide +kernel, by decide +kernel, by decide +kernel⟩ rfl rfl ⟨Nat.le_of_ble_eq_true rfl, Nat.le_of_ble_eq_true rfl⟩ rfl (t := [.int (xs (i + 1).toNatClampNeg)]) (r := []) (PX' := fun I L => CR I L (o_strike A ((xs (i + 1).toNatClampNeg))).2) (rv := (o_strike A ((xs (i + 1).toNatClampNeg))).1) d_law_289 rfl rfl (Nat.le_of_ble_eq_true rfl) hl.1 (fun I L hC => ⟨rfl, A, hC, fun I2 L2 h => ⟨rfl, h⟩⟩) hSt ⟨Nat.le_refl _, Nat.le_refl _⟩ (fun H locs hSt => ?_)
  have hS := hSt.S
  refine lv_aload_n hx hb d_law_292 rfl (lv_at hl 2 rfl) ?_
  refine lv_aload_n hx hb d_law_293 rfl (lv_at hl 0 rfl) ?_
  refine lv_iload_n hx hb d_law_294 rfl (lv_at hl 3 rfl) ?_
  refine lv_iconst (v := 1) hx hb d_law_295 (by decide) ?_
  refine lv_iadd hx hb d_law_296 ?_
  refine va_sld hx hb hX hbl hbA hS hi1 d_law_297 ?_
  refine lw_cM E (n := 1) met_MD_strike (am_pos 699 (by decide +kernel) rfl) (am_pos 700 (by decide +kernel) rfl) (am_pos 701 (by decide +kernel) rfl) (am_pos 41 (by decide +kernel) rfl) (am_pos 702 (by decide +kernel) rfl) ⟨by decide +kernel, by decide +kernel, by decide +kernel⟩ rfl rfl ⟨Nat.le_of_ble_eq_true rfl, Nat.le_of_ble_eq_true rfl⟩ rfl (t := [.int (xs (i + 1).toNatClampNeg)]) (r := [.int ((o_strike A ((xs (i + 1).toNatClampNeg))).1)]) (PM' := fun I L => ∃ c2, c2 ≤ cn + 4096 ∧ MR I L (o_strike A ((xs (i + 1).toNatClampNeg))).2 c2) (rv := (o_strike A ((xs (i + 1).toNatClampNeg))).1) d_law_298 rfl rfl (Nat.le_of_ble_eq_true rfl) hl.1 (fun I L hC => ⟨rfl, A, cn, hC, hcn, fun I2 L2 c2 h1 h2 => ⟨rfl, c2, h1, h2⟩⟩) hSt ⟨Nat.le_refl _, Nat.le_refl _⟩ (fun H locs hSt => ?_)
  have hS := hSt.S
  refine lv_icmp_eq (tgt := 1125) hx hb d_law_301 (by decide) (fun _ => ?_) (fun q => absurd rfl q)
  obtain ⟨IX, LX, IM, LM, a1, ⟨c2, b1, b2⟩, a3, a4, a5⟩ := hSt
  exact kk _ c2 _ _ b1 ⟨IX, LX, IM, LM, a1, b2, a3, a4, a5⟩
set_option maxRecDepth 100000 in
set_option maxHeartbeats 4000000 in
theorem law_4 {p : Program} {l : Launch} {e : Env} {s : State} {m : MethodId} {below : List Frame} {meth : Method} {c : Code} {b L : Nat} {xs : Nat → Int32} {D : va_G} {ca : Nat → ClassId} {adX adM : Nat → Nat} (E : lw_E p s m c b D ca adX adM) (hX : va_X b L xs s s.heap) (hbl : b < s.heap.size) {i : Int32} (hi : ∀ k : Nat, k < 8 → vp_in (i + nI k) L) {A : am_A} {cn : Nat} (hcn : cn + 4096 ≤ 1073741824) {H : Heap} {locs : List Loc} {ls : Array Slot} (hl : lv_has ls 4 [(0, .ref b), (1, .ref (adX 0)), (2, .ref (adM 0)), (3, .int i)]) (hSt : lw_St s D ca adX adM (fun I L => CR I L A) (fun I L => MR I L A cn) H locs)
    (kk : ∀ (A2 : am_A) (c2 : Nat) (H2 : Heap) (locs2 : List Loc), c2 ≤ cn + 4096 → lw_St s D ca adX adM (fun I L => CR I L A2) (fun I L => MR I L A2 c2) H2 locs2 → W p l e room_1 s m #[Value.ref b] below meth c H2 locs2 600000 7302250 (lw_Z below #[Value.ref b] s) (F0 m 1125 ls [])) : W p l e room_1 s m #[Value.ref b] below meth c H locs 600000 7302250 (lw_Z below #[Value.ref b] s) (F0 m 306 ls []) := by
  obtain ⟨hx, hb, hml, hown, hU, hN, hK, hD⟩ := id E
  have hbA : ¬ (fun q : Nat => s.heap.size ≤ q) b := Nat.not_le.mpr hbl
  have hS := hSt.S
  have hi1 : vp_in (i + 1) L := hi 1 (by omega)
  have hi2 : vp_in (i + 2) L := hi 2 (by omega)
  refine lv_aload_n hx hb d_law_306 rfl (lv_at hl 1 rfl) ?_
  refine lv_aload_n hx hb d_law_307 rfl (lv_at hl 0 rfl) ?_
  refine lv_iload_n hx hb d_law_308 rfl (lv_at hl 3 rfl) ?_
  refine lv_iconst (v := 1) hx hb d_law_309 (by decide) ?_
  refine lv_iadd hx hb d_law_310 ?_
  refine va_sld hx hb hX hbl hbA hS hi1 d_law_311 ?_
  refine lv_aload_n hx hb d_law_312 rfl (lv_at hl 0 rfl) ?_
  refine lv_iload_n hx hb d_law_313 rfl (lv_at hl 3 rfl) ?_
  refine lv_iconst (v := 2) hx hb d_law_314 (by decide) ?_
  refine lv_iadd hx hb d_law_315 ?_
  refine va_sld hx hb hX hbl hbA hS hi2 d_law_316 ?_
  refine lw_cX E (n := 2) met_RP_of (am_pos 302 (by decide +kernel) rfl) (am_pos 303 (by decide +kernel) rfl) (am_pos 304 (by decide +kernel) rfl) (am_pos 35 (by decide +kernel) rfl) (am_pos 305 (by decide +kernel) rfl) ⟨by decide +kernel, by decide +kernel, by decide +kernel⟩ rfl rfl ⟨Nat.le_of_ble_eq_true rfl, Nat.le_of_ble_eq_true rfl⟩ rfl (t := [.int (xs (i + 1).toNatClampNeg), .int (xs (i + 2).toNatClampNeg)]) (r := []) (PX' := fun I L => CR I L (o_of A ((xs (i + 1).toNatClampNeg)) ((xs (i + 2).toNatClampNeg))).2) (rv := (o_of A ((xs (i + 1).toNatClampNeg)) ((xs (i + 2).toNatClampNeg))).1) d_law_317 rfl rfl (Nat.le_of_ble_eq_true rfl) hl.1 (fun I L hC => ⟨rfl, A, hC, fun I2 L2 h => ⟨rfl, h⟩⟩) hSt ⟨Nat.le_refl _, Nat.le_refl _⟩ (fun H locs hSt => ?_)
  have hS := hSt.S
  refine lv_aload_n hx hb d_law_320 rfl (lv_at hl 2 rfl) ?_
  refine lv_aload_n hx hb d_law_321 rfl (lv_at hl 0 rfl) ?_
  refine lv_iload_n hx hb d_law_322 rfl (lv_at hl 3 rfl) ?_
  refine lv_iconst (v := 1) hx hb d_law_323 (by decide) ?_
  refine lv_iadd hx hb d_law_324 ?_
  refine va_sld hx hb hX hbl hbA hS hi1 d_law_325 ?_
  refine lv_aload_n hx hb d_law_326 rfl (lv_at hl 0 rfl) ?_
  refine lv_iload_n hx hb d_law_327 rfl (lv_at hl 3 rfl) ?_
  refine lv_iconst (v := 2) hx hb d_law_328 (by decide) ?_
  refine lv_iadd hx hb d_law_329 ?_
  refine va_sld hx hb hX hbl hbA hS hi2 d_law_330 ?_
  refine lw_cM E (n := 2) met_MD_of (am_pos 706 (by decide +kernel) rfl) (am_pos 707 (by decide +kernel) rfl) (am_pos 708 (by decide +kernel) rfl) (am_pos 41 (by decide +kernel) rfl) (am_pos 709 (by decide +kernel) rfl) ⟨by decide +kernel, by decide +kernel, by decide +kernel⟩ rfl rfl ⟨Nat.le_of_ble_eq_true rfl, Nat.le_of_ble_eq_true rfl⟩ rfl (t := [.int (xs (i + 1).toNatClampNeg), .int (xs (i + 2).toNatClampNeg)]) (r := [.int ((o_of A ((xs (i + 1).toNatClampNeg)) ((xs (i + 2).toNatClampNeg))).1)]) (PM' := fun I L => ∃ c2, c2 ≤ cn + 4096 ∧ MR I L (o_of A ((xs (i + 1).toNatClampNeg)) ((xs (i + 2).toNatClampNeg))).2 c2) (rv := (o_of A ((xs (i + 1).toNatClampNeg)) ((xs (i + 2).toNatClampNeg))).1) d_law_331 rfl rfl (Nat.le_of_ble_eq_true rfl) hl.1 (fun I L hC => ⟨rfl, A, cn, hC, hcn, fun I2 L2 c2 h1 h2 => ⟨rfl, c2, h1, h2⟩⟩) hSt ⟨Nat.le_refl _, Nat.le_refl _⟩ (fun H locs hSt => ?_)
  have hS := hSt.S
  refine lv_icmp_eq (tgt := 1125) hx hb d_law_334 (by decide) (fun _ => ?_) (fun q => absurd rfl q)
  obtain ⟨IX, LX, IM, LM, a1, ⟨c2, b1, b2⟩, a3, a4, a5⟩ := hSt
  exact kk _ c2 _ _ b1 ⟨IX, LX, IM, LM, a1, b2, a3, a4, a5⟩
