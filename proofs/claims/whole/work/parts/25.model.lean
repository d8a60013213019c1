theorem dX12_all_0 : decode cX12_all 0 = .ok (.aload_n 0, 1) := by decide +kernel
theorem dX12_all_1 : decode cX12_all 1 = .ok (.aload_n 0, 1) := by decide +kernel
theorem dX12_all_2 : decode cX12_all 2 = .ok (.iload_n 1, 1) := by decide +kernel
theorem dX12_all_3 : decode cX12_all 3 = .ok (.iconst 0, 1) := by decide +kernel
theorem dX12_all_4 : decode cX12_all 4 = .ok (.invokevirtual 89, 3) := by decide +kernel
theorem dX12_all_7 : decode cX12_all 7 = .ok (.iload_n 1, 1) := by decide +kernel
theorem dX12_all_8 : decode cX12_all 8 = .ok (.iload_n 2, 1) := by decide +kernel
theorem dX12_all_9 : decode cX12_all 9 = .ok (.iload_n 3, 1) := by decide +kernel
theorem dX12_all_10 : decode cX12_all 10 = .ok (.invokevirtual 258, 3) := by decide +kernel
theorem dX12_all_13 : decode cX12_all 13 = .ok (.ireturn, 1) := by decide +kernel
set_option maxRecDepth 20000 in
theorem ggX12_all_X12_one : GoodIn wsX12_all wsX12_one := goodIn_r _ [5, 6, 22, 23, 24, 25, 26, 27, 28, 29, 30, 31, 32, 33, 34, 35, 36, 37, 38, 39, 40, 41, 42, 43, 44, 45, 46, 47, 48, 49, 50, 51, 52, 53] (by decide +kernel) (by decide +kernel)
set_option maxRecDepth 20000 in
theorem gX12_all_X12_one : GoodIn wsX12_all (wsV RX12 89 RX12 yX12_one wsX12_one) := goodIn_app (goodIn_of _ (by decide +kernel)) ggX12_all_X12_one
set_option maxRecDepth 20000 in
theorem ggX12_all_X12_byKind : GoodIn wsX12_all wsX12_byKind := goodIn_r _ [10, 11, 12, 13, 14, 15, 4, 16, 17, 18, 19, 20, 21, 1, 2, 3, 5, 6, 7, 8, 9, 0, 22, 23, 24, 25, 26, 27, 28, 29, 30, 31, 32, 33, 34, 35, 36, 37, 38, 39, 40, 41, 42, 43, 44, 45, 46, 47, 48, 49, 50, 51, 52, 53] (by decide +kernel) (by decide +kernel)
set_option maxRecDepth 20000 in
theorem gX12_all_X12_byKind : GoodIn wsX12_all (wsV RX12 258 RX12 yX12_byKind wsX12_byKind) := goodIn_app (goodIn_of _ (by decide +kernel)) ggX12_all_X12_byKind
def fX12_all (F : Nat → c_G → Int32 → Int32 → Int32 → Int32 → Option (c_G × Int32)) (g : c_G) (a1 : Int32) (a2 : Int32) (a3 : Int32) : Option (c_G × Int32) :=
  (fX12_one g a1 ((0 : Int32))).bind fun r1 => c_b2 (F 1 g r1 a1 a2 a3) fun g4 r5 => some (g4, r5)
set_option maxRecDepth 100000 in
set_option maxHeartbeats 4000000 in
theorem kX12_all {l : Launch} {D : va_G} {tc : Nat → ClassId} {ad : Nat → Nat} {A : Nat → Prop} {E : (Nat → Nat) × (Nat → Nat) × Nat} {F : Nat → c_G → Int32 → Int32 → Int32 → Int32 → Option (c_G × Int32)} {dd : Nat} (hF0 : ∀ {g g' : c_G} {a1 : Int32} {a2 : Int32} {a3 : Int32} {r : Int32}, F 0 g a1 a2 a3 0 = some (g', r) → c_Mi l yX12_all wsX12_all (c_rm (1 + dd)) D tc ad A E TM [.ref (ad 0), .int a1, .int a2, .int a3] g g' r) (hF1 : ∀ {g g' : c_G} {a1 : Int32} {a2 : Int32} {a3 : Int32} {a4 : Int32} {r : Int32}, F 1 g a1 a2 a3 a4 = some (g', r) → c_Mi l yX12_byKind wsX12_byKind (c_rm (1 + dd)) D tc ad A E TM [.ref (ad 0), .int a1, .int a2, .int a3, .int a4] g g' r) (hD : c_D A ad TM) {a1 : Int32} {a2 : Int32} {a3 : Int32} {g g' : c_G} {r : Int32} (hf : fX12_all F g a1 a2 a3 = some (g', r)) : c_Mi l yX12_all wsX12_all (c_rm (1 + dd + 1)) D tc ad A E TM ([.ref (ad 0), .int a1, .int a2, .int a3] : List Value) g g' r := by
  refine c_ofW (bytes := cX12_all) (maxL := 4) (ret := (some .int)) (by decide) rfl (Nat.le_of_ble_eq_true rfl) ?_
  intro p e s m below meth c ls C hP hS hl
  unfold fX12_all at hf
  obtain ⟨hx, hb, hr, hml, hts, hown, hlk, hK, hE⟩ := id C
  have hl : lv_has ls 4 [(0, .ref (ad 0)), (1, .int a1), (2, .int a2), (3, .int a3)] := hl
  refine lv_aload_n hx hb dX12_all_0 rfl (lv_at hl 0 rfl) ?_
  refine lv_aload_n hx hb dX12_all_1 rfl (lv_at hl 0 rfl) ?_
  refine lv_iload_n hx hb dX12_all_2 rfl (lv_at hl 1 rfl) ?_
  refine lv_iconst (v := (0 : Int32)) hx hb dX12_all_3 (by decide) ?_
  obtain ⟨r1, hc2, hf⟩ := c_bd hf
  refine c_goi (va_runV (As := [.int a1, .int (0 : Int32)]) (rest := [.ref (ad 0)]) ⟨hx, hb, hml, hown, hts⟩ (kX12_one hD hc2) (cwV 2 hts gX12_all_X12_one rfl rfl rfl (by decide +kernel) ⟨by simp only [c_rm]; omega, by simp only [c_rm]; omega⟩) (c_preV hK hP hE hS tM0 rfl) rfl rfl hl.1 rfl (lv_room (Nat.le_of_ble_eq_true rfl)) dX12_all_4 ⟨Nat.zero_le _, Nat.zero_le _⟩) hS (fun H locs hP hS => ?_)
  refine lv_iload_n hx hb dX12_all_7 rfl (lv_at hl 1 rfl) ?_
  refine lv_iload_n hx hb dX12_all_8 rfl (lv_at hl 2 rfl) ?_
  refine lv_iload_n hx hb dX12_all_9 rfl (lv_at hl 3 rfl) ?_
  obtain ⟨g4, r5, hc3, hf⟩ := c_b2E hf
  refine c_goi (va_runV (As := [.int r1, .int a1, .int a2, .int a3]) (rest := []) ⟨hx, hb, hml, hown, hts⟩ (hF1 hc3) (cwV 4 hts gX12_all_X12_byKind rfl rfl rfl (by decide +kernel) ⟨by simp only [c_rm]; omega, by simp only [c_rm]; omega⟩) (c_preV hK hP hE hS tM0 rfl) rfl rfl hl.1 rfl (lv_room (Nat.le_of_ble_eq_true rfl)) dX12_all_10 ⟨Nat.zero_le _, Nat.zero_le _⟩) hS (fun H locs hP hS => ?_)
  exact c_iret hx hb hr hlk hP hS rfl (c_inj hf) dX12_all_13
theorem i_X12_byKind_X12 : ∀ w ∈ u_ws RX12 TX12 32, w ∈ wsX12_byKind := c_inP [22, 23, 24, 25, 26, 27, 28, 29, 30, 31, 32, 33, 34, 35, 36, 37, 38, 39, 40, 41, 42, 43, 44, 45, 46, 47, 48, 49, 50, 51, 52, 53] (by decide +kernel)
theorem dX12_byKind_0 : decode cX12_byKind 0 = .ok (.iload_n 1, 1) := by decide +kernel
theorem dX12_byKind_1 : decode cX12_byKind 1 = .ok (.istore 5, 2) := by decide +kernel
theorem dX12_byKind_3 : decode cX12_byKind 3 = .ok (.aload_n 0, 1) := by decide +kernel
theorem dX12_byKind_4 : decode cX12_byKind 4 = .ok (.getfield 62, 3) := by decide +kernel
theorem dX12_byKind_7 : decode cX12_byKind 7 = .ok (.iconst 3, 1) := by decide +kernel
theorem dX12_byKind_8 : decode cX12_byKind 8 = .ok (.iload 5, 2) := by decide +kernel
theorem dX12_byKind_10 : decode cX12_byKind 10 = .ok (.imul, 1) := by decide +kernel
theorem dX12_byKind_11 : decode cX12_byKind 11 = .ok (.iload_n 3, 1) := by decide +kernel
theorem dX12_byKind_12 : decode cX12_byKind 12 = .ok (.iadd, 1) := by decide +kernel
theorem dX12_byKind_13 : decode cX12_byKind 13 = .ok (.iaload, 1) := by decide +kernel
theorem dX12_byKind_14 : decode cX12_byKind 14 = .ok (.ifCond .ne 15, 3) := by decide +kernel
theorem dX12_byKind_17 : decode cX12_byKind 17 = .ok (.aload_n 0, 1) := by decide +kernel
theorem dX12_byKind_18 : decode cX12_byKind 18 = .ok (.getfield 59, 3) := by decide +kernel
theorem dX12_byKind_21 : decode cX12_byKind 21 = .ok (.iload 5, 2) := by decide +kernel
theorem dX12_byKind_23 : decode cX12_byKind 23 = .ok (.iaload, 1) := by decide +kernel
theorem dX12_byKind_24 : decode cX12_byKind 24 = .ok (.istore 5, 2) := by decide +kernel
theorem dX12_byKind_26 : decode cX12_byKind 26 = .ok (.goto (-23), 3) := by decide +kernel
theorem dX12_byKind_29 : decode cX12_byKind 29 = .ok (.aload_n 0, 1) := by decide +kernel
theorem dX12_byKind_30 : decode cX12_byKind 30 = .ok (.getfield 59, 3) := by decide +kernel
theorem dX12_byKind_33 : decode cX12_byKind 33 = .ok (.iload 5, 2) := by decide +kernel
theorem dX12_byKind_35 : decode cX12_byKind 35 = .ok (.iaload, 1) := by decide +kernel
theorem dX12_byKind_36 : decode cX12_byKind 36 = .ok (.istore 6, 2) := by decide +kernel
theorem dX12_byKind_38 : decode cX12_byKind 38 = .ok (.aload_n 0, 1) := by decide +kernel
theorem dX12_byKind_39 : decode cX12_byKind 39 = .ok (.aload_n 0, 1) := by decide +kernel
theorem dX12_byKind_40 : decode cX12_byKind 40 = .ok (.getfield 62, 3) := by decide +kernel
theorem dX12_byKind_43 : decode cX12_byKind 43 = .ok (.iconst 3, 1) := by decide +kernel
theorem dX12_byKind_44 : decode cX12_byKind 44 = .ok (.iload 5, 2) := by decide +kernel
theorem dX12_byKind_46 : decode cX12_byKind 46 = .ok (.imul, 1) := by decide +kernel
theorem dX12_byKind_47 : decode cX12_byKind 47 = .ok (.iload_n 3, 1) := by decide +kernel
theorem dX12_byKind_48 : decode cX12_byKind 48 = .ok (.iadd, 1) := by decide +kernel
theorem dX12_byKind_49 : decode cX12_byKind 49 = .ok (.iaload, 1) := by decide +kernel
theorem dX12_byKind_50 : decode cX12_byKind 50 = .ok (.invokevirtual 262, 3) := by decide +kernel
theorem dX12_byKind_53 : decode cX12_byKind 53 = .ok (.lookupswitch 228 #[(10, 91), (11, 96), (12, 112), (20, 123), (30, 137), (40, 150), (50, 169), (51, 181), (60, 194), (70, 207)], 91) := by decide +kernel
theorem dX12_byKind_144 : decode cX12_byKind 144 = .ok (.iload 4, 2) := by decide +kernel
theorem dX12_byKind_146 : decode cX12_byKind 146 = .ok (.iload_n 2, 1) := by decide +kernel
theorem dX12_byKind_147 : decode cX12_byKind 147 = .ok (.iadd, 1) := by decide +kernel
theorem dX12_byKind_148 : decode cX12_byKind 148 = .ok (.ireturn, 1) := by decide +kernel
theorem dX12_byKind_149 : decode cX12_byKind 149 = .ok (.aload_n 0, 1) := by decide +kernel
theorem dX12_byKind_150 : decode cX12_byKind 150 = .ok (.iload_n 2, 1) := by decide +kernel
theorem dX12_byKind_151 : decode cX12_byKind 151 = .ok (.iconst 0, 1) := by decide +kernel
theorem dX12_byKind_152 : decode cX12_byKind 152 = .ok (.iload 4, 2) := by decide +kernel
theorem dX12_byKind_154 : decode cX12_byKind 154 = .ok (.invokevirtual 265, 3) := by decide +kernel
theorem dX12_byKind_157 : decode cX12_byKind 157 = .ok (.aload_n 0, 1) := by decide +kernel
theorem dX12_byKind_158 : decode cX12_byKind 158 = .ok (.iload_n 2, 1) := by decide +kernel
theorem dX12_byKind_159 : decode cX12_byKind 159 = .ok (.iconst 1, 1) := by decide +kernel
theorem dX12_byKind_160 : decode cX12_byKind 160 = .ok (.invokevirtual 89, 3) := by decide +kernel
theorem dX12_byKind_163 : decode cX12_byKind 163 = .ok (.isub, 1) := by decide +kernel
theorem dX12_byKind_164 : decode cX12_byKind 164 = .ok (.ireturn, 1) := by decide +kernel
theorem dX12_byKind_165 : decode cX12_byKind 165 = .ok (.aload_n 0, 1) := by decide +kernel
theorem dX12_byKind_166 : decode cX12_byKind 166 = .ok (.iload_n 2, 1) := by decide +kernel
theorem dX12_byKind_167 : decode cX12_byKind 167 = .ok (.iconst 1, 1) := by decide +kernel
theorem dX12_byKind_168 : decode cX12_byKind 168 = .ok (.iload 4, 2) := by decide +kernel
theorem dX12_byKind_170 : decode cX12_byKind 170 = .ok (.invokevirtual 265, 3) := by decide +kernel
theorem dX12_byKind_173 : decode cX12_byKind 173 = .ok (.iconst 2, 1) := by decide +kernel
theorem dX12_byKind_174 : decode cX12_byKind 174 = .ok (.imul, 1) := by decide +kernel
theorem dX12_byKind_175 : decode cX12_byKind 175 = .ok (.ireturn, 1) := by decide +kernel
theorem dX12_byKind_176 : decode cX12_byKind 176 = .ok (.aload_n 0, 1) := by decide +kernel
theorem dX12_byKind_177 : decode cX12_byKind 177 = .ok (.iload 6, 2) := by decide +kernel
theorem dX12_byKind_179 : decode cX12_byKind 179 = .ok (.iload_n 2, 1) := by decide +kernel
theorem dX12_byKind_180 : decode cX12_byKind 180 = .ok (.iconst 1, 1) := by decide +kernel
theorem dX12_byKind_181 : decode cX12_byKind 181 = .ok (.iload 4, 2) := by decide +kernel
theorem dX12_byKind_183 : decode cX12_byKind 183 = .ok (.invokevirtual 258, 3) := by decide +kernel
theorem dX12_byKind_186 : decode cX12_byKind 186 = .ok (.bipush 6, 2) := by decide +kernel
theorem dX12_byKind_188 : decode cX12_byKind 188 = .ok (.ixor, 1) := by decide +kernel
theorem dX12_byKind_189 : decode cX12_byKind 189 = .ok (.ireturn, 1) := by decide +kernel
theorem dX12_byKind_190 : decode cX12_byKind 190 = .ok (.aload_n 0, 1) := by decide +kernel
theorem dX12_byKind_191 : decode cX12_byKind 191 = .ok (.iload 6, 2) := by decide +kernel
theorem dX12_byKind_193 : decode cX12_byKind 193 = .ok (.iload_n 2, 1) := by decide +kernel
theorem dX12_byKind_194 : decode cX12_byKind 194 = .ok (.iconst 0, 1) := by decide +kernel
theorem dX12_byKind_195 : decode cX12_byKind 195 = .ok (.iload 4, 2) := by decide +kernel
theorem dX12_byKind_197 : decode cX12_byKind 197 = .ok (.iconst 3, 1) := by decide +kernel
theorem dX12_byKind_198 : decode cX12_byKind 198 = .ok (.imul, 1) := by decide +kernel
theorem dX12_byKind_199 : decode cX12_byKind 199 = .ok (.invokevirtual 258, 3) := by decide +kernel
theorem dX12_byKind_202 : decode cX12_byKind 202 = .ok (.ireturn, 1) := by decide +kernel
theorem dX12_byKind_203 : decode cX12_byKind 203 = .ok (.aload_n 0, 1) := by decide +kernel
theorem dX12_byKind_204 : decode cX12_byKind 204 = .ok (.iload 6, 2) := by decide +kernel
theorem dX12_byKind_206 : decode cX12_byKind 206 = .ok (.iload_n 2, 1) := by decide +kernel
theorem dX12_byKind_207 : decode cX12_byKind 207 = .ok (.iconst 2, 1) := by decide +kernel
theorem dX12_byKind_208 : decode cX12_byKind 208 = .ok (.iload 4, 2) := by decide +kernel
theorem dX12_byKind_210 : decode cX12_byKind 210 = .ok (.invokevirtual 258, 3) := by decide +kernel
theorem dX12_byKind_213 : decode cX12_byKind 213 = .ok (.aload_n 0, 1) := by decide +kernel
theorem dX12_byKind_214 : decode cX12_byKind 214 = .ok (.iload_n 2, 1) := by decide +kernel
theorem dX12_byKind_215 : decode cX12_byKind 215 = .ok (.iconst 1, 1) := by decide +kernel
theorem dX12_byKind_216 : decode cX12_byKind 216 = .ok (.iconst 1, 1) := by decide +kernel
theorem dX12_byKind_217 : decode cX12_byKind 217 = .ok (.invokevirtual 265, 3) := by decide +kernel
theorem dX12_byKind_220 : decode cX12_byKind 220 = .ok (.iadd, 1) := by decide +kernel
theorem dX12_byKind_221 : decode cX12_byKind 221 = .ok (.ireturn, 1) := by decide +kernel
theorem dX12_byKind_222 : decode cX12_byKind 222 = .ok (.aload_n 0, 1) := by decide +kernel
theorem dX12_byKind_223 : decode cX12_byKind 223 = .ok (.iload 6, 2) := by decide +kernel
theorem dX12_byKind_225 : decode cX12_byKind 225 = .ok (.iload_n 2, 1) := by decide +kernel
theorem dX12_byKind_226 : decode cX12_byKind 226 = .ok (.iconst 0, 1) := by decide +kernel
theorem dX12_byKind_227 : decode cX12_byKind 227 = .ok (.iload 4, 2) := by decide +kernel
theorem dX12_byKind_229 : decode cX12_byKind 229 = .ok (.invokevirtual 258, 3) := by decide +kernel
theorem dX12_byKind_232 : decode cX12_byKind 232 = .ok (.ineg, 1) := by decide +kernel
theorem dX12_byKind_233 : decode cX12_byKind 233 = .ok (.ireturn, 1) := by decide +kernel
theorem dX12_byKind_234 : decode cX12_byKind 234 = .ok (.aload_n 0, 1) := by decide +kernel
theorem dX12_byKind_235 : decode cX12_byKind 235 = .ok (.iload 6, 2) := by decide +kernel
theorem dX12_byKind_237 : decode cX12_byKind 237 = .ok (.iload_n 2, 1) := by decide +kernel
theorem dX12_byKind_238 : decode cX12_byKind 238 = .ok (.iconst 1, 1) := by decide +kernel
theorem dX12_byKind_239 : decode cX12_byKind 239 = .ok (.iload 4, 2) := by decide +kernel
theorem dX12_byKind_241 : decode cX12_byKind 241 = .ok (.iconst 1, 1) := by decide +kernel
theorem dX12_byKind_242 : decode cX12_byKind 242 = .ok (.iadd, 1) := by decide +kernel
theorem dX12_byKind_243 : decode cX12_byKind 243 = .ok (.invokevirtual 258, 3) := by decide +kernel
theorem dX12_byKind_246 : decode cX12_byKind 246 = .ok (.ireturn, 1) := by decide +kernel
theorem dX12_byKind_247 : decode cX12_byKind 247 = .ok (.aload_n 0, 1) := by decide +kernel
theorem dX12_byKind_248 : decode cX12_byKind 248 = .ok (.iload 6, 2) := by decide +kernel
theorem dX12_byKind_250 : decode cX12_byKind 250 = .ok (.iload_n 2, 1) := by decide +kernel
theorem dX12_byKind_251 : decode cX12_byKind 251 = .ok (.iconst 2, 1) := by decide +kernel
theorem dX12_byKind_252 : decode cX12_byKind 252 = .ok (.iload 4, 2) := by decide +kernel
theorem dX12_byKind_254 : decode cX12_byKind 254 = .ok (.iload_n 2, 1) := by decide +kernel
theorem dX12_byKind_255 : decode cX12_byKind 255 = .ok (.isub, 1) := by decide +kernel
theorem dX12_byKind_256 : decode cX12_byKind 256 = .ok (.invokevirtual 258, 3) := by decide +kernel
theorem dX12_byKind_259 : decode cX12_byKind 259 = .ok (.ireturn, 1) := by decide +kernel
theorem dX12_byKind_260 : decode cX12_byKind 260 = .ok (.aload_n 0, 1) := by decide +kernel
theorem dX12_byKind_261 : decode cX12_byKind 261 = .ok (.iload 6, 2) := by decide +kernel
theorem dX12_byKind_263 : decode cX12_byKind 263 = .ok (.iload_n 2, 1) := by decide +kernel
theorem dX12_byKind_264 : decode cX12_byKind 264 = .ok (.iconst 1, 1) := by decide +kernel
theorem dX12_byKind_265 : decode cX12_byKind 265 = .ok (.iload 4, 2) := by decide +kernel
theorem dX12_byKind_267 : decode cX12_byKind 267 = .ok (.invokevirtual 258, 3) := by decide +kernel
theorem dX12_byKind_270 : decode cX12_byKind 270 = .ok (.aload_n 0, 1) := by decide +kernel
theorem dX12_byKind_271 : decode cX12_byKind 271 = .ok (.iload 6, 2) := by decide +kernel
theorem dX12_byKind_273 : decode cX12_byKind 273 = .ok (.iload_n 2, 1) := by decide +kernel
theorem dX12_byKind_274 : decode cX12_byKind 274 = .ok (.iconst 0, 1) := by decide +kernel
theorem dX12_byKind_275 : decode cX12_byKind 275 = .ok (.iconst 2, 1) := by decide +kernel
theorem dX12_byKind_276 : decode cX12_byKind 276 = .ok (.invokevirtual 258, 3) := by decide +kernel
theorem dX12_byKind_279 : decode cX12_byKind 279 = .ok (.iadd, 1) := by decide +kernel
theorem dX12_byKind_280 : decode cX12_byKind 280 = .ok (.ireturn, 1) := by decide +kernel
theorem dX12_byKind_281 : decode cX12_byKind 281 = .ok (.aload_n 0, 1) := by decide +kernel
theorem dX12_byKind_282 : decode cX12_byKind 282 = .ok (.iload 6, 2) := by decide +kernel
theorem dX12_byKind_284 : decode cX12_byKind 284 = .ok (.iload_n 2, 1) := by decide +kernel
theorem dX12_byKind_285 : decode cX12_byKind 285 = .ok (.iconst 0, 1) := by decide +kernel
theorem dX12_byKind_286 : decode cX12_byKind 286 = .ok (.iload 4, 2) := by decide +kernel
theorem dX12_byKind_288 : decode cX12_byKind 288 = .ok (.invokevirtual 258, 3) := by decide +kernel
theorem dX12_byKind_291 : decode cX12_byKind 291 = .ok (.aload_n 0, 1) := by decide +kernel
theorem dX12_byKind_292 : decode cX12_byKind 292 = .ok (.iload_n 2, 1) := by decide +kernel
theorem dX12_byKind_293 : decode cX12_byKind 293 = .ok (.iconst 1, 1) := by decide +kernel
theorem dX12_byKind_294 : decode cX12_byKind 294 = .ok (.invokevirtual 89, 3) := by decide +kernel
theorem dX12_byKind_297 : decode cX12_byKind 297 = .ok (.ixor, 1) := by decide +kernel
theorem dX12_byKind_298 : decode cX12_byKind 298 = .ok (.ireturn, 1) := by decide +kernel
set_option maxRecDepth 20000 in
theorem ggX12_byKind_X12_body : GoodIn wsX12_byKind wsX12_body := goodIn_r _ [7, 8, 9, 22, 23, 24, 25, 26, 27, 28, 29, 30, 31, 32, 33, 34, 35, 36, 37, 38, 39, 40, 41, 42, 43, 44, 45, 46, 47, 48, 49, 50, 51, 52, 53] (by decide +kernel) (by decide +kernel)
set_option maxRecDepth 20000 in
theorem gX12_byKind_X12_body : GoodIn wsX12_byKind (wsV RX12 262 RX12 yX12_body wsX12_body) := goodIn_app (goodIn_of _ (by decide +kernel)) ggX12_byKind_X12_body
set_option maxRecDepth 20000 in
theorem ggX12_byKind_X12_all : GoodIn wsX12_byKind wsX12_all := goodIn_r _ [21, 13, 14, 15, 6, 16, 17, 18, 19, 20, 0, 1, 2, 3, 4, 5, 7, 8, 9, 10, 11, 12, 22, 23, 24, 25, 26, 27, 28, 29, 30, 31, 32, 33, 34, 35, 36, 37, 38, 39, 40, 41, 42, 43, 44, 45, 46, 47, 48, 49, 50, 51, 52, 53] (by decide +kernel) (by decide +kernel)
set_option maxRecDepth 20000 in
theorem gX12_byKind_X12_all : GoodIn wsX12_byKind (wsV RX12 265 RX12 yX12_all wsX12_all) := goodIn_app (goodIn_of _ (by decide +kernel)) ggX12_byKind_X12_all
set_option maxRecDepth 20000 in
theorem ggX12_byKind_X12_one : GoodIn wsX12_byKind wsX12_one := goodIn_r _ [16, 17, 22, 23, 24, 25, 26, 27, 28, 29, 30, 31, 32, 33, 34, 35, 36, 37, 38, 39, 40, 41, 42, 43, 44, 45, 46, 47, 48, 49, 50, 51, 52, 53] (by decide +kernel) (by decide +kernel)
set_option maxRecDepth 20000 in
theorem gX12_byKind_X12_one : GoodIn wsX12_byKind (wsV RX12 89 RX12 yX12_one wsX12_one) := goodIn_app (goodIn_of _ (by decide +kernel)) ggX12_byKind_X12_one
set_option maxRecDepth 20000 in
theorem ggX12_byKind_X12_byKind : GoodIn wsX12_byKind wsX12_byKind := goodIn_r _ [0, 1, 2, 3, 4, 5, 6, 7, 8, 9, 10, 11, 12, 13, 14, 15, 16, 17, 18, 19, 20, 21, 22, 23, 24, 25, 26, 27, 28, 29, 30, 31, 32, 33, 34, 35, 36, 37, 38, 39, 40, 41, 42, 43, 44, 45, 46, 47, 48, 49, 50, 51, 52, 53] (by decide +kernel) (by decide +kernel)
set_option maxRecDepth 20000 in
theorem gX12_byKind_X12_byKind : GoodIn wsX12_byKind (wsV RX12 258 RX12 yX12_byKind wsX12_byKind) := goodIn_app (goodIn_of _ (by decide +kernel)) ggX12_byKind_X12_byKind
def fX12_byKind_3 (F : Nat → c_G → Int32 → Int32 → Int32 → Int32 → Option (c_G × Int32))  (a1 : Int32) (a2 : Int32) (a3 : Int32) (a4 : Int32) : Nat → Int32 → Int32 → Int32 → Int32 → c_G → Option (c_G × Int32)
  | 0, _, _, _, _, _ => none
  | n + 1, x2, x3, x4, x5, g => if c_in ((((3 : Int32) * x5) + x3)) (21) = true then if (g.1 16 ((((3 : Int32) * x5) + x3)).toNatClampNeg) = 0 then (if c_in (x5) (7) = true then (fX12_byKind_3 F a1 a2 a3 a4 n) x2 x3 x4 ((g.1 15 (x5).toNatClampNeg)) g else none) else (if c_in (x5) (7) = true then c_b2 (fX12_body g ((g.1 16 ((((3 : Int32) * x5) + x3)).toNatClampNeg))) fun g3005 r3006 => if r3006 = (10 : Int32) then (some (g3005, (x4 + x2))) else if r3006 = (11 : Int32) then (c_b2 (F 0 g3005 x2 ((0 : Int32)) x4 0) fun g3010 r3011 => (fX12_one g3010 x2 ((1 : Int32))).bind fun r3012 => some (g3010, (r3011 - r3012))) else if r3006 = (12 : Int32) then (c_b2 (F 0 g3005 x2 ((1 : Int32)) x4 0) fun g3016 r3017 => some (g3016, (r3017 * (2 : Int32)))) else if r3006 = (20 : Int32) then (c_b2 (F 1 g3005 ((g.1 15 (x5).toNatClampNeg)) x2 ((1 : Int32)) x4) fun g3020 r3021 => some (g3020, (r3021 ^^^ (6 : Int32)))) else if r3006 = (30 : Int32) then (c_b2 (F 1 g3005 ((g.1 15 (x5).toNatClampNeg)) x2 ((0 : Int32)) ((x4 * (3 : Int32)))) fun g3024 r3025 => some (g3024, r3025)) else if r3006 = (40 : Int32) then (c_b2 (F 1 g3005 ((g.1 15 (x5).toNatClampNeg)) x2 ((2 : Int32)) x4) fun g3028 r3029 => c_b2 (F 0 g3028 x2 ((1 : Int32)) ((1 : Int32)) 0) fun g3031 r3032 => some (g3031, (r3029 + r3032))) else if r3006 = (50 : Int32) then (c_b2 (F 1 g3005 ((g.1 15 (x5).toNatClampNeg)) x2 ((0 : Int32)) x4) fun g3035 r3036 => some (g3035, (-r3036))) else if r3006 = (51 : Int32) then (c_b2 (F 1 g3005 ((g.1 15 (x5).toNatClampNeg)) x2 ((1 : Int32)) ((x4 + (1 : Int32)))) fun g3039 r3040 => some (g3039, r3040)) else if r3006 = (60 : Int32) then (c_b2 (F 1 g3005 ((g.1 15 (x5).toNatClampNeg)) x2 ((2 : Int32)) ((x4 - x2))) fun g3043 r3044 => some (g3043, r3044)) else if r3006 = (70 : Int32) then (c_b2 (F 1 g3005 ((g.1 15 (x5).toNatClampNeg)) x2 ((1 : Int32)) x4) fun g3047 r3048 => c_b2 (F 1 g3047 ((g.1 15 (x5).toNatClampNeg)) x2 ((0 : Int32)) ((2 : Int32))) fun g3050 r3051 => some (g3050, (r3048 + r3051))) else (c_b2 (F 1 g3005 ((g.1 15 (x5).toNatClampNeg)) x2 ((0 : Int32)) x4) fun g3053 r3054 => (fX12_one g3053 x2 ((1 : Int32))).bind fun r3055 => some (g3053, (r3054 ^^^ r3055))) else none) else none
set_option maxRecDepth 100000 in
set_option maxHeartbeats 4000000 in
theorem jX12_byKind_3 {p : Program} {l : Launch} {e : Env} {s : State} {m : MethodId} {below : List Frame} {meth : Method} {c : Code} {D : va_G} {tc : Nat → ClassId} {ad : Nat → Nat} {A : Nat → Prop} {E : (Nat → Nat) × (Nat → Nat) × Nat} {F : Nat → c_G → Int32 → Int32 → Int32 → Int32 → Option (c_G × Int32)} {dd : Nat} {a1 : Int32} {a2 : Int32} {a3 : Int32} {a4 : Int32} {g' : c_G} {r : Int32} (C : c_C p s m meth c D tc A E RX12 wsX12_byKind cX12_byKind 7 (some .int) ([.ref (ad 0), .int a1, .int a2, .int a3, .int a4] : List Value).toArray) (hD : c_D A ad TM) (hF0 : ∀ {g g' : c_G} {a1 : Int32} {a2 : Int32} {a3 : Int32} {r : Int32}, F 0 g a1 a2 a3 0 = some (g', r) → c_Mi l yX12_all wsX12_all (c_rm (1 + dd)) D tc ad A E TM [.ref (ad 0), .int a1, .int a2, .int a3] g g' r) (hF1 : ∀ {g g' : c_G} {a1 : Int32} {a2 : Int32} {a3 : Int32} {a4 : Int32} {r : Int32}, F 1 g a1 a2 a3 a4 = some (g', r) → c_Mi l yX12_byKind wsX12_byKind (c_rm (1 + dd)) D tc ad A E TM [.ref (ad 0), .int a1, .int a2, .int a3, .int a4] g g' r)  : ∀ (n : Nat) (x2 : Int32) (x3 : Int32) (x4 : Int32) (x5 : Int32) (g : c_G), fX12_byKind_3 F a1 a2 a3 a4 n x2 x3 x4 x5 g = some (g', r) → ∀ (H : Heap) (locs : List Loc), va_P D vwCl (c_ws tc ad TM g) H → va_S A s.heap H locs → ∀ ls : Array Slot, lv_has ls 7 [(0, .ref (ad 0)), (2, .int x2), (3, .int x3), (4, .int x4), (5, .int x5)] → W p l e (c_rm (1 + dd + 1)) s m ([.ref (ad 0), .int a1, .int a2, .int a3, .int a4] : List Value).toArray below meth c H locs 0 0 (MQ below (va_Qi (fun (x : Int32) (_ : Unit) => x = r) (fun _ t => va_P D vwCl (c_ws tc ad TM g') t.heap) A) ([.ref (ad 0), .int a1, .int a2, .int a3, .int a4] : List Value).toArray s 0 0 A) (F0 m 3 ls []) := by
  obtain ⟨hx, hb, hr, hml, hts, hown, hlk, hK, hE⟩ := id C
  intro n
  induction n with
  | zero =>
    intro x2 x3 x4 x5 g hf
    cases hf
  | succ n ih =>
    intro x2 x3 x4 x5 g hf H locs hP hS ls hl
    unfold fX12_byKind_3 at hf
    refine lv_aload_n hx hb dX12_byKind_3 rfl (lv_at hl 0 rfl) ?_
    refine c_get hx hb hts i_X12_byKind_X12 hown hK hP 0 tM0 rfl 25 (by decide) (hts _ (List.mem_of_getElem? (i := 1) rfl)) (fun _ h9 => h9) rfl (v := .ref (ad 16)) rfl dX12_byKind_4 ?_
    refine lv_iconst (v := (3 : Int32)) hx hb dX12_byKind_7 (by decide) ?_
    refine lv_iload hx hb dX12_byKind_8 (lv_at hl 4 rfl) ?_
    refine lv_imul hx hb dX12_byKind_10 ?_
    refine lv_iload_n hx hb dX12_byKind_11 rfl (lv_at hl 2 rfl) ?_
    refine lv_iadd hx hb dX12_byKind_12 ?_
    obtain ⟨hi3001, hf⟩ := c_gd hf
    refine c_iald (j := ((((3 : Int32) * x5) + x3)).toNatClampNeg) hx hb hK hP 16 tM16 rfl (c_inV hi3001) dX12_byKind_13 ?_
    refine lv_if_ne (tgt := 29) hx hb dX12_byKind_14 (by decide) (fun c3002 => ?_) (fun c3002 => ?_)
    · have hf := c_ie c3002 hf
      refine lv_aload_n hx hb dX12_byKind_29 rfl (lv_at hl 0 rfl) ?_
      refine c_get hx hb hts i_X12_byKind_X12 hown hK hP 0 tM0 rfl 24 (by decide) (hts _ (List.mem_of_getElem? (i := 2) rfl)) (fun _ h9 => h9) rfl (v := .ref (ad 15)) rfl dX12_byKind_30 ?_
      refine lv_iload hx hb dX12_byKind_33 (lv_at hl 4 rfl) ?_
      obtain ⟨hi3003, hf⟩ := c_gd hf
      refine c_iald (j := (x5).toNatClampNeg) hx hb hK hP 15 tM15 rfl (c_inV hi3003) dX12_byKind_35 ?_
      refine lv_istore (lv' := [(6, .int (g.1 15 (x5).toNatClampNeg)), (0, .ref (ad 0)), (2, .int x2), (3, .int x3), (4, .int x4), (5, .int x5)]) hx hb dX12_byKind_36 hl (by decide) rfl (fun ls hl => ?_)
      refine lv_aload_n hx hb dX12_byKind_38 rfl (lv_at hl 1 rfl) ?_
      refine lv_aload_n hx hb dX12_byKind_39 rfl (lv_at hl 1 rfl) ?_
      refine c_get hx hb hts i_X12_byKind_X12 hown hK hP 0 tM0 rfl 25 (by decide) (hts _ (List.mem_of_getElem? (i := 1) rfl)) (fun _ h9 => h9) rfl (v := .ref (ad 16)) rfl dX12_byKind_40 ?_
      refine lv_iconst (v := (3 : Int32)) hx hb dX12_byKind_43 (by decide) ?_
      refine lv_iload hx hb dX12_byKind_44 (lv_at hl 5 rfl) ?_
      refine lv_imul hx hb dX12_byKind_46 ?_
      refine lv_iload_n hx hb dX12_byKind_47 rfl (lv_at hl 3 rfl) ?_
      refine lv_iadd hx hb dX12_byKind_48 ?_
      refine c_iald (j := ((((3 : Int32) * x5) + x3)).toNatClampNeg) hx hb hK hP 16 tM16 rfl (c_inV hi3001) dX12_byKind_49 ?_
      obtain ⟨g3005, r3006, hc3004, hf⟩ := c_b2E hf
      refine c_goi (va_runV (As := [.int (g.1 16 ((((3 : Int32) * x5) + x3)).toNatClampNeg)]) (rest := []) ⟨hx, hb, hml, hown, hts⟩ (kX12_body hD hc3004) (cwV 1 hts gX12_byKind_X12_body rfl rfl rfl (by decide +kernel) ⟨by simp only [c_rm]; omega, by simp only [c_rm]; omega⟩) (c_preV hK hP hE hS tM0 rfl) rfl rfl hl.1 rfl (lv_room (Nat.le_of_ble_eq_true rfl)) dX12_byKind_50 ⟨Nat.zero_le _, Nat.zero_le _⟩) hS (fun H locs hP hS => ?_)
      by_cases c3007 : r3006 = (10 : Int32)
      · have hf := c_it c3007 hf
        refine lv_lookup (off := 91) (tgt := 144) hx hb dX12_byKind_53 (by decide) (by rw [c3007]; decide) (by decide) ?_
        refine lv_iload hx hb dX12_byKind_144 (lv_at hl 4 rfl) ?_
        refine lv_iload_n hx hb dX12_byKind_146 rfl (lv_at hl 2 rfl) ?_
        refine lv_iadd hx hb dX12_byKind_147 ?_
        exact c_iret hx hb hr hlk hP hS rfl (c_inj hf) dX12_byKind_148
      have hf := c_ie c3007 hf
      by_cases c3008 : r3006 = (11 : Int32)
      · have hf := c_it c3008 hf
        refine lv_lookup (off := 96) (tgt := 149) hx hb dX12_byKind_53 (by decide) (by rw [c3008]; decide) (by decide) ?_
        refine lv_aload_n hx hb dX12_byKind_149 rfl (lv_at hl 1 rfl) ?_
        refine lv_iload_n hx hb dX12_byKind_150 rfl (lv_at hl 2 rfl) ?_
        refine lv_iconst (v := (0 : Int32)) hx hb dX12_byKind_151 (by decide) ?_
        refine lv_iload hx hb dX12_byKind_152 (lv_at hl 4 rfl) ?_
        obtain ⟨g3010, r3011, hc3009, hf⟩ := c_b2E hf
        refine c_goi (va_runV (As := [.int x2, .int (0 : Int32), .int x4]) (rest := []) ⟨hx, hb, hml, hown, hts⟩ (hF0 hc3009) (cwV 3 hts gX12_byKind_X12_all rfl rfl rfl (by decide +kernel) ⟨by simp only [c_rm]; omega, by simp only [c_rm]; omega⟩) (c_preV hK hP hE hS tM0 rfl) rfl rfl hl.1 rfl (lv_room (Nat.le_of_ble_eq_true rfl)) dX12_byKind_154 ⟨Nat.zero_le _, Nat.zero_le _⟩) hS (fun H locs hP hS => ?_)
        refine lv_aload_n hx hb dX12_byKind_157 rfl (lv_at hl 1 rfl) ?_
        refine lv_iload_n hx hb dX12_byKind_158 rfl (lv_at hl 2 rfl) ?_
        refine lv_iconst (v := (1 : Int32)) hx hb dX12_byKind_159 (by decide) ?_
        obtain ⟨r3012, hc3013, hf⟩ := c_bd hf
        refine c_goi (va_runV (As := [.int x2, .int (1 : Int32)]) (rest := [.int r3011]) ⟨hx, hb, hml, hown, hts⟩ (kX12_one hD hc3013) (cwV 2 hts gX12_byKind_X12_one rfl rfl rfl (by decide +kernel) ⟨by simp only [c_rm]; omega, by simp only [c_rm]; omega⟩) (c_preV hK hP hE hS tM0 rfl) rfl rfl hl.1 rfl (lv_room (Nat.le_of_ble_eq_true rfl)) dX12_byKind_160 ⟨Nat.zero_le _, Nat.zero_le _⟩) hS (fun H locs hP hS => ?_)
        refine lv_isub hx hb dX12_byKind_163 ?_
        exact c_iret hx hb hr hlk hP hS rfl (c_inj hf) dX12_byKind_164
      have hf := c_ie c3008 hf
      by_cases c3014 : r3006 = (12 : Int32)
      · have hf := c_it c3014 hf
        refine lv_lookup (off := 112) (tgt := 165) hx hb dX12_byKind_53 (by decide) (by rw [c3014]; decide) (by decide) ?_
        refine lv_aload_n hx hb dX12_byKind_165 rfl (lv_at hl 1 rfl) ?_
        refine lv_iload_n hx hb dX12_byKind_166 rfl (lv_at hl 2 rfl) ?_
        refine lv_iconst (v := (1 : Int32)) hx hb dX12_byKind_167 (by decide) ?_
        refine lv_iload hx hb dX12_byKind_168 (lv_at hl 4 rfl) ?_
        obtain ⟨g3016, r3017, hc3015, hf⟩ := c_b2E hf
        refine c_goi (va_runV (As := [.int x2, .int (1 : Int32), .int x4]) (rest := []) ⟨hx, hb, hml, hown, hts⟩ (hF0 hc3015) (cwV 3 hts gX12_byKind_X12_all rfl rfl rfl (by decide +kernel) ⟨by simp only [c_rm]; omega, by simp only [c_rm]; omega⟩) (c_preV hK hP hE hS tM0 rfl) rfl rfl hl.1 rfl (lv_room (Nat.le_of_ble_eq_true rfl)) dX12_byKind_170 ⟨Nat.zero_le _, Nat.zero_le _⟩) hS (fun H locs hP hS => ?_)
        refine lv_iconst (v := (2 : Int32)) hx hb dX12_byKind_173 (by decide) ?_
        refine lv_imul hx hb dX12_byKind_174 ?_
        exact c_iret hx hb hr hlk hP hS rfl (c_inj hf) dX12_byKind_175
      have hf := c_ie c3014 hf
      by_cases c3018 : r3006 = (20 : Int32)
      · have hf := c_it c3018 hf
        refine lv_lookup (off := 123) (tgt := 176) hx hb dX12_byKind_53 (by decide) (by rw [c3018]; decide) (by decide) ?_
        refine lv_aload_n hx hb dX12_byKind_176 rfl (lv_at hl 1 rfl) ?_
        refine lv_iload hx hb dX12_byKind_177 (lv_at hl 0 rfl) ?_
        refine lv_iload_n hx hb dX12_byKind_179 rfl (lv_at hl 2 rfl) ?_
        refine lv_iconst (v := (1 : Int32)) hx hb dX12_byKind_180 (by decide) ?_
        refine lv_iload hx hb dX12_byKind_181 (lv_at hl 4 rfl) ?_
        obtain ⟨g3020, r3021, hc3019, hf⟩ := c_b2E hf
        refine c_goi (va_runV (As := [.int (g.1 15 (x5).toNatClampNeg), .int x2, .int (1 : Int32), .int x4]) (rest := []) ⟨hx, hb, hml, hown, hts⟩ (hF1 hc3019) (cwV 4 hts gX12_byKind_X12_byKind rfl rfl rfl (by decide +kernel) ⟨by simp only [c_rm]; omega, by simp only [c_rm]; omega⟩) (c_preV hK hP hE hS tM0 rfl) rfl rfl hl.1 rfl (lv_room (Nat.le_of_ble_eq_true rfl)) dX12_byKind_183 ⟨Nat.zero_le _, Nat.zero_le _⟩) hS (fun H locs hP hS => ?_)
        refine lv_bipush (v := (6 : Int32)) hx hb dX12_byKind_186 (by decide) ?_
        refine lv_ixor hx hb dX12_byKind_188 ?_
        exact c_iret hx hb hr hlk hP hS rfl (c_inj hf) dX12_byKind_189
      have hf := c_ie c3018 hf
      by_cases c3022 : r3006 = (30 : Int32)
      · have hf := c_it c3022 hf
        refine lv_lookup (off := 137) (tgt := 190) hx hb dX12_byKind_53 (by decide) (by rw [c3022]; decide) (by decide) ?_
        refine lv_aload_n hx hb dX12_byKind_190 rfl (lv_at hl 1 rfl) ?_
        refine lv_iload hx hb dX12_byKind_191 (lv_at hl 0 rfl) ?_
        refine lv_iload_n hx hb dX12_byKind_193 rfl (lv_at hl 2 rfl) ?_
        refine lv_iconst (v := (0 : Int32)) hx hb dX12_byKind_194 (by decide) ?_
        refine lv_iload hx hb dX12_byKind_195 (lv_at hl 4 rfl) ?_
        refine lv_iconst (v := (3 : Int32)) hx hb dX12_byKind_197 (by decide) ?_
        refine lv_imul hx hb dX12_byKind_198 ?_
        obtain ⟨g3024, r3025, hc3023, hf⟩ := c_b2E hf
        refine c_goi (va_runV (As := [.int (g.1 15 (x5).toNatClampNeg), .int x2, .int (0 : Int32), .int (x4 * (3 : Int32))]) (rest := []) ⟨hx, hb, hml, hown, hts⟩ (hF1 hc3023) (cwV 4 hts gX12_byKind_X12_byKind rfl rfl rfl (by decide +kernel) ⟨by simp only [c_rm]; omega, by simp only [c_rm]; omega⟩) (c_preV hK hP hE hS tM0 rfl) rfl rfl hl.1 rfl (lv_room (Nat.le_of_ble_eq_true rfl)) dX12_byKind_199 ⟨Nat.zero_le _, Nat.zero_le _⟩) hS (fun H locs hP hS => ?_)
        exact c_iret hx hb hr hlk hP hS rfl (c_inj hf) dX12_byKind_202
      have hf := c_ie c3022 hf
      by_cases c3026 : r3006 = (40 : Int32)
      · have hf := c_it c3026 hf
        refine lv_lookup (off := 150) (tgt := 203) hx hb dX12_byKind_53 (by decide) (by rw [c3026]; decide) (by decide) ?_
        refine lv_aload_n hx hb dX12_byKind_203 rfl (lv_at hl 1 rfl) ?_
        refine lv_iload hx hb dX12_byKind_204 (lv_at hl 0 rfl) ?_
        refine lv_iload_n hx hb dX12_byKind_206 rfl (lv_at hl 2 rfl) ?_
        refine lv_iconst (v := (2 : Int32)) hx hb dX12_byKind_207 (by decide) ?_
        refine lv_iload hx hb dX12_byKind_208 (lv_at hl 4 rfl) ?_
        obtain ⟨g3028, r3029, hc3027, hf⟩ := c_b2E hf
        refine c_goi (va_runV (As := [.int (g.1 15 (x5).toNatClampNeg), .int x2, .int (2 : Int32), .int x4]) (rest := []) ⟨hx, hb, hml, hown, hts⟩ (hF1 hc3027) (cwV 4 hts gX12_byKind_X12_byKind rfl rfl rfl (by decide +kernel) ⟨by simp only [c_rm]; omega, by simp only [c_rm]; omega⟩) (c_preV hK hP hE hS tM0 rfl) rfl rfl hl.1 rfl (lv_room (Nat.le_of_ble_eq_true rfl)) dX12_byKind_210 ⟨Nat.zero_le _, Nat.zero_le _⟩) hS (fun H locs hP hS => ?_)
        refine lv_aload_n hx hb dX12_byKind_213 rfl (lv_at hl 1 rfl) ?_
        refine lv_iload_n hx hb dX12_byKind_214 rfl (lv_at hl 2 rfl) ?_
        refine lv_iconst (v := (1 : Int32)) hx hb dX12_byKind_215 (by decide) ?_
        refine lv_iconst (v := (1 : Int32)) hx hb dX12_byKind_216 (by decide) ?_
        obtain ⟨g3031, r3032, hc3030, hf⟩ := c_b2E hf
        refine c_goi (va_runV (As := [.int x2, .int (1 : Int32), .int (1 : Int32)]) (rest := [.int r3029]) ⟨hx, hb, hml, hown, hts⟩ (hF0 hc3030) (cwV 3 hts gX12_byKind_X12_all rfl rfl rfl (by decide +kernel) ⟨by simp only [c_rm]; omega, by simp only [c_rm]; omega⟩) (c_preV hK hP hE hS tM0 rfl) rfl rfl hl.1 rfl (lv_room (Nat.le_of_ble_eq_true rfl)) dX12_byKind_217 ⟨Nat.zero_le _, Nat.zero_le _⟩) hS (fun H locs hP hS => ?_)
        refine lv_iadd hx hb dX12_byKind_220 ?_
        exact c_iret hx hb hr hlk hP hS rfl (c_inj hf) dX12_byKind_221
      have hf := c_ie c3026 hf
      by_cases c3033 : r3006 = (50 : Int32)
      · have hf := c_it c3033 hf
        refine lv_lookup (off := 169) (tgt := 222) hx hb dX12_byKind_53 (by decide) (by rw [c3033]; decide) (by decide) ?_
        refine lv_aload_n hx hb dX12_byKind_222 rfl (lv_at hl 1 rfl) ?_
        refine lv_iload hx hb dX12_byKind_223 (lv_at hl 0 rfl) ?_
        refine lv_iload_n hx hb dX12_byKind_225 rfl (lv_at hl 2 rfl) ?_
        refine lv_iconst (v := (0 : Int32)) hx hb dX12_byKind_226 (by decide) ?_
        refine lv_iload hx hb dX12_byKind_227 (lv_at hl 4 rfl) ?_
        obtain ⟨g3035, r3036, hc3034, hf⟩ := c_b2E hf
        refine c_goi (va_runV (As := [.int (g.1 15 (x5).toNatClampNeg), .int x2, .int (0 : Int32), .int x4]) (rest := []) ⟨hx, hb, hml, hown, hts⟩ (hF1 hc3034) (cwV 4 hts gX12_byKind_X12_byKind rfl rfl rfl (by decide +kernel) ⟨by simp only [c_rm]; omega, by simp only [c_rm]; omega⟩) (c_preV hK hP hE hS tM0 rfl) rfl rfl hl.1 rfl (lv_room (Nat.le_of_ble_eq_true rfl)) dX12_byKind_229 ⟨Nat.zero_le _, Nat.zero_le _⟩) hS (fun H locs hP hS => ?_)
        refine lv_ineg hx hb dX12_byKind_232 ?_
        exact c_iret hx hb hr hlk hP hS rfl (c_inj hf) dX12_byKind_233
      have hf := c_ie c3033 hf
      by_cases c3037 : r3006 = (51 : Int32)
      · have hf := c_it c3037 hf
        refine lv_lookup (off := 181) (tgt := 234) hx hb dX12_byKind_53 (by decide) (by rw [c3037]; decide) (by decide) ?_
        refine lv_aload_n hx hb dX12_byKind_234 rfl (lv_at hl 1 rfl) ?_
        refine lv_iload hx hb dX12_byKind_235 (lv_at hl 0 rfl) ?_
        refine lv_iload_n hx hb dX12_byKind_237 rfl (lv_at hl 2 rfl) ?_
        refine lv_iconst (v := (1 : Int32)) hx hb dX12_byKind_238 (by decide) ?_
        refine lv_iload hx hb dX12_byKind_239 (lv_at hl 4 rfl) ?_
        refine lv_iconst (v := (1 : Int32)) hx hb dX12_byKind_241 (by decide) ?_
        refine lv_iadd hx hb dX12_byKind_242 ?_
        obtain ⟨g3039, r3040, hc3038, hf⟩ := c_b2E hf
        refine c_goi (va_runV (As := [.int (g.1 15 (x5).toNatClampNeg), .int x2, .int (1 : Int32), .int (x4 + (1 : Int32))]) (rest := []) ⟨hx, hb, hml, hown, hts⟩ (hF1 hc3038) (cwV 4 hts gX12_byKind_X12_byKind rfl rfl rfl (by decide +kernel) ⟨by simp only [c_rm]; omega, by simp only [c_rm]; omega⟩) (c_preV hK hP hE hS tM0 rfl) rfl rfl hl.1 rfl (lv_room (Nat.le_of_ble_eq_true rfl)) dX12_byKind_243 ⟨Nat.zero_le _, Nat.zero_le _⟩) hS (fun H locs hP hS => ?_)
        exact c_iret hx hb hr hlk hP hS rfl (c_inj hf) dX12_byKind_246
      have hf := c_ie c3037 hf
      by_cases c3041 : r3006 = (60 : Int32)
      · have hf := c_it c3041 hf
        refine lv_lookup (off := 194) (tgt := 247) hx hb dX12_byKind_53 (by decide) (by rw [c3041]; decide) (by decide) ?_
        refine lv_aload_n hx hb dX12_byKind_247 rfl (lv_at hl 1 rfl) ?_
        refine lv_iload hx hb dX12_byKind_248 (lv_at hl 0 rfl) ?_
        refine lv_iload_n hx hb dX12_byKind_250 rfl (lv_at hl 2 rfl) ?_
        refine lv_iconst (v := (2 : Int32)) hx hb dX12_byKind_251 (by decide) ?_
        refine lv_iload hx hb dX12_byKind_252 (lv_at hl 4 rfl) ?_
        refine lv_iload_n hx hb dX12_byKind_254 rfl (lv_at hl 2 rfl) ?_
        refine lv_isub hx hb dX12_byKind_255 ?_
        obtain ⟨g3043, r3044, hc3042, hf⟩ := c_b2E hf
        refine c_goi (va_runV (As := [.int (g.1 15 (x5).toNatClampNeg), .int x2, .int (2 : Int32), .int (x4 - x2)]) (rest := []) ⟨hx, hb, hml, hown, hts⟩ (hF1 hc3042) (cwV 4 hts gX12_byKind_X12_byKind rfl rfl rfl (by decide +kernel) ⟨by simp only [c_rm]; omega, by simp only [c_rm]; omega⟩) (c_preV hK hP hE hS tM0 rfl) rfl rfl hl.1 rfl (lv_room (Nat.le_of_ble_eq_true rfl)) dX12_byKind_256 ⟨Nat.zero_le _, Nat.zero_le _⟩) hS (fun H locs hP hS => ?_)
        exact c_iret hx hb hr hlk hP hS rfl (c_inj hf) dX12_byKind_259
      have hf := c_ie c3041 hf
      by_cases c3045 : r3006 = (70 : Int32)
      · have hf := c_it c3045 hf
        refine lv_lookup (off := 207) (tgt := 260) hx hb dX12_byKind_53 (by decide) (by rw [c3045]; decide) (by decide) ?_
        refine lv_aload_n hx hb dX12_byKind_260 rfl (lv_at hl 1 rfl) ?_
        refine lv_iload hx hb dX12_byKind_261 (lv_at hl 0 rfl) ?_
        refine lv_iload_n hx hb dX12_byKind_263 rfl (lv_at hl 2 rfl) ?_
        refine lv_iconst (v := (1 : Int32)) hx hb dX12_byKind_264 (by decide) ?_
        refine lv_iload hx hb dX12_byKind_265 (lv_at hl 4 rfl) ?_
        obtain ⟨g3047, r3048, hc3046, hf⟩ := c_b2E hf
        refine c_goi (va_runV (As := [.int (g.1 15 (x5).toNatClampNeg), .int x2, .int (1 : Int32), .int x4]) (rest := []) ⟨hx, hb, hml, hown, hts⟩ (hF1 hc3046) (cwV 4 hts gX12_byKind_X12_byKind rfl rfl rfl (by decide +kernel) ⟨by simp only [c_rm]; omega, by simp only [c_rm]; omega⟩) (c_preV hK hP hE hS tM0 rfl) rfl rfl hl.1 rfl (lv_room (Nat.le_of_ble_eq_true rfl)) dX12_byKind_267 ⟨Nat.zero_le _, Nat.zero_le _⟩) hS (fun H locs hP hS => ?_)
        refine lv_aload_n hx hb dX12_byKind_270 rfl (lv_at hl 1 rfl) ?_
        refine lv_iload hx hb dX12_byKind_271 (lv_at hl 0 rfl) ?_
        refine lv_iload_n hx hb dX12_byKind_273 rfl (lv_at hl 2 rfl) ?_
        refine lv_iconst (v := (0 : Int32)) hx hb dX12_byKind_274 (by decide) ?_
        refine lv_iconst (v := (2 : Int32)) hx hb dX12_byKind_275 (by decide) ?_
        obtain ⟨g3050, r3051, hc3049, hf⟩ := c_b2E hf
        refine c_goi (va_runV (As := [.int (g.1 15 (x5).toNatClampNeg), .int x2, .int (0 : Int32), .int (2 : Int32)]) (rest := [.int r3048]) ⟨hx, hb, hml, hown, hts⟩ (hF1 hc3049) (cwV 4 hts gX12_byKind_X12_byKind rfl rfl rfl (by decide +kernel) ⟨by simp only [c_rm]; omega, by simp only [c_rm]; omega⟩) (c_preV hK hP hE hS tM0 rfl) rfl rfl hl.1 rfl (lv_room (Nat.le_of_ble_eq_true rfl)) dX12_byKind_276 ⟨Nat.zero_le _, Nat.zero_le _⟩) hS (fun H locs hP hS => ?_)
        refine lv_iadd hx hb dX12_byKind_279 ?_
        exact c_iret hx hb hr hlk hP hS rfl (c_inj hf) dX12_byKind_280
      have hf := c_ie c3045 hf
      have h9 : Op.lookupswitch.offset [(10, 91), (11, 96), (12, 112), (20, 123), (30, 137), (40, 150), (50, 169), (51, 181), (60, 194), (70, 207)] 228 r3006.toInt = 228 := by
        rw [Op.lookupswitch.offset_cons, if_neg (fun e => c3007 (Int32.toInt_inj.mp (by rw [← e]; rfl)))]
        rw [Op.lookupswitch.offset_cons, if_neg (fun e => c3008 (Int32.toInt_inj.mp (by rw [← e]; rfl)))]
        rw [Op.lookupswitch.offset_cons, if_neg (fun e => c3014 (Int32.toInt_inj.mp (by rw [← e]; rfl)))]
        rw [Op.lookupswitch.offset_cons, if_neg (fun e => c3018 (Int32.toInt_inj.mp (by rw [← e]; rfl)))]
        rw [Op.lookupswitch.offset_cons, if_neg (fun e => c3022 (Int32.toInt_inj.mp (by rw [← e]; rfl)))]
        rw [Op.lookupswitch.offset_cons, if_neg (fun e => c3026 (Int32.toInt_inj.mp (by rw [← e]; rfl)))]
        rw [Op.lookupswitch.offset_cons, if_neg (fun e => c3033 (Int32.toInt_inj.mp (by rw [← e]; rfl)))]
        rw [Op.lookupswitch.offset_cons, if_neg (fun e => c3037 (Int32.toInt_inj.mp (by rw [← e]; rfl)))]
        rw [Op.lookupswitch.offset_cons, if_neg (fun e => c3041 (Int32.toInt_inj.mp (by rw [← e]; rfl)))]
        rw [Op.lookupswitch.offset_cons, if_neg (fun e => c3045 (Int32.toInt_inj.mp (by rw [← e]; rfl)))]
        rfl
      refine lv_lookup (off := 228) (tgt := 281) hx hb dX12_byKind_53 (by decide) h9 (by decide) ?_
      refine lv_aload_n hx hb dX12_byKind_281 rfl (lv_at hl 1 rfl) ?_
      refine lv_iload hx hb dX12_byKind_282 (lv_at hl 0 rfl) ?_
      refine lv_iload_n hx hb dX12_byKind_284 rfl (lv_at hl 2 rfl) ?_
      refine lv_iconst (v := (0 : Int32)) hx hb dX12_byKind_285 (by decide) ?_
      refine lv_iload hx hb dX12_byKind_286 (lv_at hl 4 rfl) ?_
      obtain ⟨g3053, r3054, hc3052, hf⟩ := c_b2E hf
      refine c_goi (va_runV (As := [.int (g.1 15 (x5).toNatClampNeg), .int x2, .int (0 : Int32), .int x4]) (rest := []) ⟨hx, hb, hml, hown, hts⟩ (hF1 hc3052) (cwV 4 hts gX12_byKind_X12_byKind rfl rfl rfl (by decide +kernel) ⟨by simp only [c_rm]; omega, by simp only [c_rm]; omega⟩) (c_preV hK hP hE hS tM0 rfl) rfl rfl hl.1 rfl (lv_room (Nat.le_of_ble_eq_true rfl)) dX12_byKind_288 ⟨Nat.zero_le _, Nat.zero_le _⟩) hS (fun H locs hP hS => ?_)
      refine lv_aload_n hx hb dX12_byKind_291 rfl (lv_at hl 1 rfl) ?_
      refine lv_iload_n hx hb dX12_byKind_292 rfl (lv_at hl 2 rfl) ?_
      refine lv_iconst (v := (1 : Int32)) hx hb dX12_byKind_293 (by decide) ?_
      obtain ⟨r3055, hc3056, hf⟩ := c_bd hf
      refine c_goi (va_runV (As := [.int x2, .int (1 : Int32)]) (rest := [.int r3054]) ⟨hx, hb, hml, hown, hts⟩ (kX12_one hD hc3056) (cwV 2 hts gX12_byKind_X12_one rfl rfl rfl (by decide +kernel) ⟨by simp only [c_rm]; omega, by simp only [c_rm]; omega⟩) (c_preV hK hP hE hS tM0 rfl) rfl rfl hl.1 rfl (lv_room (Nat.le_of_ble_eq_true rfl)) dX12_byKind_294 ⟨Nat.zero_le _, Nat.zero_le _⟩) hS (fun H locs hP hS => ?_)
      refine lv_ixor hx hb dX12_byKind_297 ?_
      exact c_iret hx hb hr hlk hP hS rfl (c_inj hf) dX12_byKind_298
    · have hf := c_it c3002 hf
      refine lv_aload_n hx hb dX12_byKind_17 rfl (lv_at hl 0 rfl) ?_
      refine c_get hx hb hts i_X12_byKind_X12 hown hK hP 0 tM0 rfl 24 (by decide) (hts _ (List.mem_of_getElem? (i := 2) rfl)) (fun _ h9 => h9) rfl (v := .ref (ad 15)) rfl dX12_byKind_18 ?_
      refine lv_iload hx hb dX12_byKind_21 (lv_at hl 4 rfl) ?_
      obtain ⟨hi3057, hf⟩ := c_gd hf
      refine c_iald (j := (x5).toNatClampNeg) hx hb hK hP 15 tM15 rfl (c_inV hi3057) dX12_byKind_23 ?_
      refine lv_istore (lv' := [(5, .int (g.1 15 (x5).toNatClampNeg)), (0, .ref (ad 0)), (2, .int x2), (3, .int x3), (4, .int x4)]) hx hb dX12_byKind_24 hl (by decide) rfl (fun ls hl => ?_)
      refine lv_goto (tgt := 3) hx hb dX12_byKind_26 (by decide) ?_
      exact ih x2 x3 x4 ((g.1 15 (x5).toNatClampNeg)) g hf _ _ hP hS _ (lv_sub hl [1, 2, 3, 4, 0] rfl)
def fX12_byKind (F : Nat → c_G → Int32 → Int32 → Int32 → Int32 → Option (c_G × Int32)) (g : c_G) (a1 : Int32) (a2 : Int32) (a3 : Int32) (a4 : Int32) : Option (c_G × Int32) :=
  fX12_byKind_3 F a1 a2 a3 a4 c_F a2 a3 a4 a1 g
set_option maxRecDepth 100000 in
set_option maxHeartbeats 4000000 in
theorem kX12_byKind {l : Launch} {D : va_G} {tc : Nat → ClassId} {ad : Nat → Nat} {A : Nat → Prop} {E : (Nat → Nat) × (Nat → Nat) × Nat} {F : Nat → c_G → Int32 → Int32 → Int32 → Int32 → Option (c_G × Int32)} {dd : Nat} (hF0 : ∀ {g g' : c_G} {a1 : Int32} {a2 : Int32} {a3 : Int32} {r : Int32}, F 0 g a1 a2 a3 0 = some (g', r) → c_Mi l yX12_all wsX12_all (c_rm (1 + dd)) D tc ad A E TM [.ref (ad 0), .int a1, .int a2, .int a3] g g' r) (hF1 : ∀ {g g' : c_G} {a1 : Int32} {a2 : Int32} {a3 : Int32} {a4 : Int32} {r : Int32}, F 1 g a1 a2 a3 a4 = some (g', r) → c_Mi l yX12_byKind wsX12_byKind (c_rm (1 + dd)) D tc ad A E TM [.ref (ad 0), .int a1, .int a2, .int a3, .int a4] g g' r) (hD : c_D A ad TM) {a1 : Int32} {a2 : Int32} {a3 : Int32} {a4 : Int32} {g g' : c_G} {r : Int32} (hf : fX12_byKind F g a1 a2 a3 a4 = some (g', r)) : c_Mi l yX12_byKind wsX12_byKind (c_rm (1 + dd + 1)) D tc ad A E TM ([.ref (ad 0), .int a1, .int a2, .int a3, .int a4] : List Value) g g' r := by
  refine c_ofW (bytes := cX12_byKind) (maxL := 7) (ret := (some .int)) (by decide) rfl (Nat.le_of_ble_eq_true rfl) ?_
  intro p e s m below meth c ls C hP hS hl
  unfold fX12_byKind at hf
  obtain ⟨hx, hb, hr, hml, hts, hown, hlk, hK, hE⟩ := id C
  have hl : lv_has ls 7 [(0, .ref (ad 0)), (1, .int a1), (2, .int a2), (3, .int a3), (4, .int a4)] := hl
  refine lv_iload_n hx hb dX12_byKind_0 rfl (lv_at hl 1 rfl) ?_
  refine lv_istore (lv' := [(5, .int a1), (0, .ref (ad 0)), (1, .int a1), (2, .int a2), (3, .int a3), (4, .int a4)]) hx hb dX12_byKind_1 hl (by decide) rfl (fun ls hl => ?_)
  exact jX12_byKind_3 C hD hF0 hF1 c_F a2 a3 a4 a1 g hf _ _ hP hS _ (lv_sub hl [1, 3, 4, 5, 0] rfl)
def fG5 : Nat → Nat → c_G → Int32 → Int32 → Int32 → Int32 → Option (c_G × Int32)
  | 0, _, _, _, _, _, _ => none
  | n + 1, t, g, a1, a2, a3, a4 => if t = 0 then fX12_all (fG5 n) g a1 a2 a3 else if t = 1 then fX12_byKind (fG5 n) g a1 a2 a3 a4 else none
set_option maxRecDepth 100000 in
set_option maxHeartbeats 4000000 in
theorem kG5_all {l : Launch} {D : va_G} {tc : Nat → ClassId} {ad : Nat → Nat} {A : Nat → Prop} {E : (Nat → Nat) × (Nat → Nat) × Nat} (hD : c_D A ad TM) : ∀ n : Nat, (∀ {g g' : c_G} {a1 : Int32} {a2 : Int32} {a3 : Int32} {r : Int32}, fG5 n 0 g a1 a2 a3 0 = some (g', r) → c_Mi l yX12_all wsX12_all (c_rm (1 + n)) D tc ad A E TM [.ref (ad 0), .int a1, .int a2, .int a3] g g' r) ∧ (∀ {g g' : c_G} {a1 : Int32} {a2 : Int32} {a3 : Int32} {a4 : Int32} {r : Int32}, fG5 n 1 g a1 a2 a3 a4 = some (g', r) → c_Mi l yX12_byKind wsX12_byKind (c_rm (1 + n)) D tc ad A E TM [.ref (ad 0), .int a1, .int a2, .int a3, .int a4] g g' r) := by
  intro n
  induction n with
  | zero =>
    exact ⟨@fun _ _ _ _ _ _ hf => (by cases hf), @fun _ _ _ _ _ _ _ hf => (by cases hf)⟩
  | succ n ih =>
    exact ⟨@fun _ _ _ _ _ _ hf => kX12_all (ih.1) (ih.2) hD (by have h9 := hf; unfold fG5 at h9; exact c_it rfl h9), @fun _ _ _ _ _ _ _ hf => kX12_byKind (ih.1) (ih.2) hD (by have h9 := hf; unfold fG5 at h9; replace h9 := c_ie (by decide) h9; exact c_it rfl h9)⟩
theorem kG5_0 {l : Launch} {D : va_G} {tc : Nat → ClassId} {ad : Nat → Nat} {A : Nat → Prop} {E : (Nat → Nat) × (Nat → Nat) × Nat} (hD : c_D A ad TM) : ∀ {g g' : c_G} {a1 : Int32} {a2 : Int32} {a3 : Int32} {r : Int32}, fG5 40 0 g a1 a2 a3 0 = some (g', r) → c_Mi l yX12_all wsX12_all (c_rm (1 + 40)) D tc ad A E TM [.ref (ad 0), .int a1, .int a2, .int a3] g g' r := (kG5_all hD 40).1
theorem kG5_1 {l : Launch} {D : va_G} {tc : Nat → ClassId} {ad : Nat → Nat} {A : Nat → Prop} {E : (Nat → Nat) × (Nat → Nat) × Nat} (hD : c_D A ad TM) : ∀ {g g' : c_G} {a1 : Int32} {a2 : Int32} {a3 : Int32} {a4 : Int32} {r : Int32}, fG5 40 1 g a1 a2 a3 a4 = some (g', r) → c_Mi l yX12_byKind wsX12_byKind (c_rm (1 + 40)) D tc ad A E TM [.ref (ad 0), .int a1, .int a2, .int a3, .int a4] g g' r := (kG5_all hD 40).2
theorem i_X12_act_X12 : ∀ w ∈ u_ws RX12 TX12 32, w ∈ wsX12_act := c_inP [30, 31, 32, 33, 34, 35, 36, 37, 38, 39, 40, 41, 42, 43, 44, 45, 46, 47, 48, 49, 50, 51, 52, 53, 54, 55, 56, 57, 58, 59, 60, 61] (by decide +kernel)
theorem dX12_act_0 : decode cX12_act 0 = .ok (.aload_n 0, 1) := by decide +kernel
theorem dX12_act_1 : decode cX12_act 1 = .ok (.iconst 0, 1) := by decide +kernel
theorem dX12_act_2 : decode cX12_act 2 = .ok (.putfield 255, 3) := by decide +kernel
theorem dX12_act_5 : decode cX12_act 5 = .ok (.aload_n 0, 1) := by decide +kernel
theorem dX12_act_6 : decode cX12_act 6 = .ok (.iload_n 1, 1) := by decide +kernel
theorem dX12_act_7 : decode cX12_act 7 = .ok (.invokevirtual 101, 3) := by decide +kernel
theorem dX12_act_10 : decode cX12_act 10 = .ok (.ifCond .eq 22, 3) := by decide +kernel
theorem dX12_act_13 : decode cX12_act 13 = .ok (.iload_n 2, 1) := by decide +kernel
theorem dX12_act_14 : decode cX12_act 14 = .ok (.iconst 0, 1) := by decide +kernel
theorem dX12_act_15 : decode cX12_act 15 = .ok (.iconst 2, 1) := by decide +kernel
theorem dX12_act_16 : decode cX12_act 16 = .ok (.invokestatic 85, 3) := by decide +kernel
theorem dX12_act_19 : decode cX12_act 19 = .ok (.ifCond .eq 13, 3) := by decide +kernel
theorem dX12_act_22 : decode cX12_act 22 = .ok (.aload_n 0, 1) := by decide +kernel
theorem dX12_act_23 : decode cX12_act 23 = .ok (.iload_n 1, 1) := by decide +kernel
theorem dX12_act_24 : decode cX12_act 24 = .ok (.iload_n 2, 1) := by decide +kernel
theorem dX12_act_25 : decode cX12_act 25 = .ok (.iload_n 3, 1) := by decide +kernel
theorem dX12_act_26 : decode cX12_act 26 = .ok (.invokevirtual 265, 3) := by decide +kernel
theorem dX12_act_29 : decode cX12_act 29 = .ok (.goto 4, 3) := by decide +kernel
theorem dX12_act_32 : decode cX12_act 32 = .ok (.iconst 0, 1) := by decide +kernel
theorem dX12_act_33 : decode cX12_act 33 = .ok (.ireturn, 1) := by decide +kernel
set_option maxRecDepth 20000 in
theorem ggX12_act_X12_isChild : GoodIn wsX12_act wsX12_isChild := goodIn_r _ [6, 7, 8, 9, 5, 10, 30, 31, 32, 33, 34, 35, 36, 37, 38, 39, 40, 41, 42, 43, 44, 45, 46, 47, 48, 49, 50, 51, 52, 53, 54, 55, 56, 57, 58, 59, 60, 61] (by decide +kernel) (by decide +kernel)
set_option maxRecDepth 20000 in
theorem gX12_act_X12_isChild : GoodIn wsX12_act (wsV RX12 101 RX12 yX12_isChild wsX12_isChild) := goodIn_app (goodIn_of _ (by decide +kernel)) ggX12_act_X12_isChild
set_option maxRecDepth 20000 in
theorem ggX12_act_X12_isIn : GoodIn wsX12_act wsX12_isIn := goodIn_r _ [10] (by decide +kernel) (by decide +kernel)
set_option maxRecDepth 20000 in
theorem gX12_act_X12_isIn : GoodIn wsX12_act (va_wsS RX12 85 yX12_isIn wsX12_isIn) := goodIn_app (goodIn_of _ (by decide +kernel)) ggX12_act_X12_isIn
set_option maxRecDepth 20000 in
theorem ggX12_act_X12_all : GoodIn wsX12_act wsX12_all := goodIn_r _ [14, 15, 16, 17, 5, 18, 7, 19, 20, 21, 22, 23, 24, 25, 26, 27, 28, 1, 29, 11, 12, 13, 30, 31, 32, 33, 34, 35, 36, 37, 38, 39, 40, 41, 42, 43, 44, 45, 46, 47, 48, 49, 50, 51, 52, 53, 54, 55, 56, 57, 58, 59, 60, 61] (by decide +kernel) (by decide +kernel)
set_option maxRecDepth 20000 in
theorem gX12_act_X12_all : GoodIn wsX12_act (wsV RX12 265 RX12 yX12_all wsX12_all) := goodIn_app (goodIn_of _ (by decide +kernel)) ggX12_act_X12_all
def fX12_act (g : c_G) (a1 : Int32) (a2 : Int32) (a3 : Int32) : Option (c_G × Int32) :=
  c_let (c_si g 0 27 (0 : Int32)) fun g1 => (fX12_isChild g1 a1).bind fun r2 => if r2 = 0 then (some (g1, (0 : Int32))) else (if (fX12_isIn a2 ((0 : Int32)) ((2 : Int32))) = 0 then (some (g1, (0 : Int32))) else (c_b2 (fG5 40 0 g1 a1 a2 a3 0) fun g7 r8 => some (g7, r8)))
set_option maxRecDepth 100000 in
set_option maxHeartbeats 4000000 in
theorem kX12_act {l : Launch} {D : va_G} {tc : Nat → ClassId} {ad : Nat → Nat} {A : Nat → Prop} {E : (Nat → Nat) × (Nat → Nat) × Nat} (hD : c_D A ad TM) {a1 : Int32} {a2 : Int32} {a3 : Int32} {g g' : c_G} {r : Int32} (hf : fX12_act g a1 a2 a3 = some (g', r)) : c_Mi l yX12_act wsX12_act (c_rm 42) D tc ad A E TM ([.ref (ad 0), .int a1, .int a2, .int a3] : List Value) g g' r := by
  refine c_ofW (bytes := cX12_act) (maxL := 4) (ret := (some .int)) (by decide) rfl (Nat.le_of_ble_eq_true rfl) ?_
  intro p e s m below meth c ls C hP hS hl
  unfold fX12_act at hf
  obtain ⟨hx, hb, hr, hml, hts, hown, hlk, hK, hE⟩ := id C
  have hl : lv_has ls 4 [(0, .ref (ad 0)), (1, .int a1), (2, .int a2), (3, .int a3)] := hl
  refine lv_aload_n hx hb dX12_act_0 rfl (lv_at hl 0 rfl) ?_
  refine lv_iconst (v := (0 : Int32)) hx hb dX12_act_1 (by decide) ?_
  obtain ⟨g1, eg1, hf⟩ := c_letE hf
  refine c_put hx hb hts i_X12_act_X12 tyX12 tyX12_ok nmX12 hown hK hP hD hS 0 tM0 rfl 27 (by decide) (hts _ (List.mem_of_getElem? (i := 1) rfl)) (fun _ h9 => h9) rfl (ty := .int) (by decide +kernel) rfl rfl rfl eg1 dX12_act_2 (fun H locs hP hS => ?_)
  refine lv_aload_n hx hb dX12_act_5 rfl (lv_at hl 0 rfl) ?_
  refine lv_iload_n hx hb dX12_act_6 rfl (lv_at hl 1 rfl) ?_
  obtain ⟨r2, hc3, hf⟩ := c_bd hf
  refine c_goi (va_runV (As := [.int a1]) (rest := []) ⟨hx, hb, hml, hown, hts⟩ (kX12_isChild hD hc3) (cwV 1 hts gX12_act_X12_isChild rfl rfl rfl (by decide +kernel) ⟨Nat.le_of_ble_eq_true rfl, Nat.le_of_ble_eq_true rfl⟩) (c_preV hK hP hE hS tM0 rfl) rfl rfl hl.1 rfl (lv_room (Nat.le_of_ble_eq_true rfl)) dX12_act_7 ⟨Nat.zero_le _, Nat.zero_le _⟩) hS (fun H locs hP hS => ?_)
  refine lv_if_eq (tgt := 32) hx hb dX12_act_10 (by decide) (fun c4 => ?_) (fun c4 => ?_)
  · have hf := c_it c4 hf
    refine lv_iconst (v := (0 : Int32)) hx hb dX12_act_32 (by decide) ?_
    exact c_iret hx hb hr hlk hP hS rfl (c_inj hf) dX12_act_33
  · have hf := c_ie c4 hf
    refine lv_iload_n hx hb dX12_act_13 rfl (lv_at hl 2 rfl) ?_
    refine lv_iconst (v := (0 : Int32)) hx hb dX12_act_14 (by decide) ?_
    refine lv_iconst (v := (2 : Int32)) hx hb dX12_act_15 (by decide) ?_
    refine c_goi (va_runS (As := [.int a2, .int (0 : Int32), .int (2 : Int32)]) (rest := []) ⟨hx, hb, hml, hown, hts⟩ (kX12_isIn (T := TM) (g := g1) rfl) (va_cwS 3 hts gX12_act_X12_isIn rfl rfl rfl (by decide +kernel) ⟨Nat.le_of_ble_eq_true rfl, Nat.le_of_ble_eq_true rfl⟩) (c_preS hK hP hE hS) rfl rfl hl.1 rfl (lv_room (Nat.le_of_ble_eq_true rfl)) dX12_act_16 ⟨Nat.zero_le _, Nat.zero_le _⟩) hS (fun H locs hP hS => ?_)
    refine lv_if_eq (tgt := 32) hx hb dX12_act_19 (by decide) (fun c5 => ?_) (fun c5 => ?_)
    · have hf := c_it c5 hf
      refine lv_iconst (v := (0 : Int32)) hx hb dX12_act_32 (by decide) ?_
      exact c_iret hx hb hr hlk hP hS rfl (c_inj hf) dX12_act_33
    · have hf := c_ie c5 hf
      refine lv_aload_n hx hb dX12_act_22 rfl (lv_at hl 0 rfl) ?_
      refine lv_iload_n hx hb dX12_act_23 rfl (lv_at hl 1 rfl) ?_
      refine lv_iload_n hx hb dX12_act_24 rfl (lv_at hl 2 rfl) ?_
      refine lv_iload_n hx hb dX12_act_25 rfl (lv_at hl 3 rfl) ?_
      obtain ⟨g7, r8, hc6, hf⟩ := c_b2E hf
      refine c_goi (va_runV (As := [.int a1, .int a2, .int a3]) (rest := []) ⟨hx, hb, hml, hown, hts⟩ (kG5_0 hD hc6) (cwV 3 hts gX12_act_X12_all rfl rfl rfl (by decide +kernel) ⟨Nat.le_of_ble_eq_true rfl, Nat.le_of_ble_eq_true rfl⟩) (c_preV hK hP hE hS tM0 rfl) rfl rfl hl.1 rfl (lv_room (Nat.le_of_ble_eq_true rfl)) dX12_act_26 ⟨Nat.zero_le _, Nat.zero_le _⟩) hS (fun H locs hP hS => ?_)
      refine lv_goto (tgt := 33) hx hb dX12_act_29 (by decide) ?_
      exact c_iret hx hb hr hlk hP hS rfl (c_inj hf) dX12_act_33
