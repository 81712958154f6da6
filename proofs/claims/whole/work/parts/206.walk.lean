set_option maxHeartbeats 4000000 in
set_option maxRecDepth 100000 in
theorem g_X9_effect_L49 {p : Program} {l : Launch} {e : Env} {s : State} {m : MethodId} {args : Array Value} {below : List Frame} {meth : Method} {c : Code} {D : va_G} {cI cZ cR : ClassId} {a : Nat → Nat} {tZ : Nat} {A : Nat → Prop} (hC : CX p s m args meth c cX9_effect 8 (some .int) yX9_effect.cls D (tyl cI cZ cR) tZ A) (x1 : Int32) (x3 : Int32) (x4 : Int32) (z0 : Int32) (S : St) : GX p l e rm_X9_effect s m args below meth c 8 D A (wM cI cZ a) (KI below D (tyl cI cZ cR) (wM cI cZ a) A args s) 49 [(0, .ref (a 0)), (1, .int x1), (3, .int x3), (4, .int x4)] [.int z0] S (m_X9_effect_L49 x1 x3 x4 z0 S) := by
  rw [m_X9_effect_L49]
  refine gx_istore (pc' := 51) hC [(5, .int z0), (0, .ref (a 0)), (1, .int x1), (3, .int x3), (4, .int x4)] rfl dX9_effect_49 (by decide) rfl ?_
  refine gx_aload_n (pc' := 52) hC rfl dX9_effect_51 rfl ?_
  refine gx_get (pc' := 55) hC 0 (atM0 cI cZ a _) rfl inw_X9 9 (by decide) lk_X9_29 rfl rfl dX9_effect_52 ?_
  refine gx_iconst (v := (0 : Int32)) (pc' := 56) hC rfl dX9_effect_55 (by decide) ?_
  refine gx_iald (pc' := 57) hC 7 0 (atM7 cI cZ a _) rfl rfl dX9_effect_56 ?_
  refine gx_iload (pc' := 59) hC rfl dX9_effect_57 rfl ?_
  refine gx_isub (pc' := 60) hC rfl dX9_effect_59 ?_
  refine gx_istore (pc' := 62) hC [(6, .int ((S 9 (0 : Int32).toNatClampNeg) - z0)), (5, .int z0), (0, .ref (a 0)), (1, .int x1), (3, .int x3), (4, .int x4)] rfl dX9_effect_60 (by decide) rfl ?_
  refine gx_iconst (v := (0 : Int32)) (pc' := 63) hC rfl dX9_effect_62 (by decide) ?_
  refine gx_istore (pc' := 65) hC [(7, .int (0 : Int32)), (6, .int ((S 9 (0 : Int32).toNatClampNeg) - z0)), (5, .int z0), (0, .ref (a 0)), (1, .int x1), (3, .int x3), (4, .int x4)] rfl dX9_effect_63 (by decide) rfl ?_
  refine gx_iload_n (pc' := 66) hC rfl dX9_effect_65 rfl ?_
  refine gx_ite (fun h4 => ?_) (fun h4 => ?_)
  · refine gx_case (v := (1 : Int32)) (off := 74) hC 140 h4 dX9_effect_66 (by decide) ?_
    refine gx_aload_n (pc' := 141) hC rfl dX9_effect_140 rfl ?_
    refine gx_iconst (v := (1 : Int32)) (pc' := 142) hC rfl dX9_effect_141 (by decide) ?_
    refine gx_callVI (pc' := 145) hC (c_X9_raise cI cZ cR a (1 : Int32) _) 0 (atM0 cI cZ a _) rfl kw_X9_90 hy_X9_raise ⟨rfl, rfl⟩ (by decide) rfl rfl (Nat.le_of_ble_eq_true rfl) rfl dX9_effect_142 (fun r4 => ?_)
    refine gx_istore (pc' := 147) hC [(7, .int r4.1), (6, .int ((S 9 (0 : Int32).toNatClampNeg) - z0)), (5, .int z0), (0, .ref (a 0)), (1, .int x1), (3, .int x3), (4, .int x4)] rfl dX9_effect_145 (by decide) rfl ?_
    refine gx_aload_n (pc' := 148) hC rfl dX9_effect_147 rfl ?_
    refine gx_iload (pc' := 150) hC rfl dX9_effect_148 rfl ?_
    refine gx_aload_n (pc' := 151) hC rfl dX9_effect_150 rfl ?_
    refine gx_get (pc' := 154) hC 0 (atM0 cI cZ a _) rfl inw_X9 9 (by decide) lk_X9_29 rfl rfl dX9_effect_151 ?_
    refine gx_iconst (v := (0 : Int32)) (pc' := 155) hC rfl dX9_effect_154 (by decide) ?_
    refine gx_iald (pc' := 156) hC 7 0 (atM7 cI cZ a _) rfl rfl dX9_effect_155 ?_
    refine gx_callVV (pc' := 159) hC (c_X9_save cI cZ cR a x4 (r4.2 9 (0 : Int32).toNatClampNeg) _) 0 (atM0 cI cZ a _) rfl kw_X9_93 hy_X9_save ⟨rfl, rfl⟩ (by decide) rfl rfl (Nat.le_of_ble_eq_true rfl) rfl dX9_effect_156 (fun r5 => ?_)
    refine gx_iload (pc' := 161) hC rfl dX9_effect_159 rfl ?_
    exact gx_iret hC dX9_effect_161
  refine gx_ite (fun h5 => ?_) (fun h5 => ?_)
  · refine gx_case (v := (2 : Int32)) (off := 96) hC 162 h5 dX9_effect_66 (by decide) ?_
    refine gx_aload_n (pc' := 163) hC rfl dX9_effect_162 rfl ?_
    refine gx_get (pc' := 166) hC 0 (atM0 cI cZ a _) rfl inw_X9 9 (by decide) lk_X9_29 rfl rfl dX9_effect_163 ?_
    refine gx_iconst (v := (0 : Int32)) (pc' := 167) hC rfl dX9_effect_166 (by decide) ?_
    refine gx_iald (pc' := 168) hC 7 0 (atM7 cI cZ a _) rfl rfl dX9_effect_167 ?_
    refine gx_iconst (v := (1 : Int32)) (pc' := 169) hC rfl dX9_effect_168 (by decide) ?_
    refine gx_icmp_ne (pc' := 172) hC 174 rfl dX9_effect_169 (by decide) (fun h6 => ?_) (fun h6 => ?_)
    · refine gx_iconst (v := (5 : Int32)) (pc' := 173) hC rfl dX9_effect_172 (by decide) ?_
      exact gx_iret hC dX9_effect_173
    · refine gx_aload_n (pc' := 175) hC rfl dX9_effect_174 rfl ?_
      refine gx_iload (pc' := 177) hC rfl dX9_effect_175 rfl ?_
      refine gx_aload_n (pc' := 178) hC rfl dX9_effect_177 rfl ?_
      refine gx_get (pc' := 181) hC 0 (atM0 cI cZ a _) rfl inw_X9 9 (by decide) lk_X9_29 rfl rfl dX9_effect_178 ?_
      refine gx_iconst (v := (0 : Int32)) (pc' := 182) hC rfl dX9_effect_181 (by decide) ?_
      refine gx_iald (pc' := 183) hC 7 0 (atM7 cI cZ a _) rfl rfl dX9_effect_182 ?_
      refine gx_callVI (pc' := 186) hC (c_X9_give cI cZ cR a x4 (S 9 (0 : Int32).toNatClampNeg) _) 0 (atM0 cI cZ a _) rfl kw_X9_97 hy_X9_give ⟨rfl, rfl⟩ (by decide) rfl rfl (Nat.le_of_ble_eq_true rfl) rfl dX9_effect_183 (fun r6 => ?_)
      refine gx_istore (pc' := 188) hC [(7, .int r6.1), (6, .int ((S 9 (0 : Int32).toNatClampNeg) - z0)), (5, .int z0), (0, .ref (a 0)), (1, .int x1), (3, .int x3), (4, .int x4)] rfl dX9_effect_186 (by decide) rfl ?_
      refine gx_iload (pc' := 190) hC rfl dX9_effect_188 rfl ?_
      refine gx_if_le (pc' := 193) hC 198 rfl dX9_effect_190 (by decide) (fun h7 => ?_) (fun h7 => ?_)
      · refine gx_aload_n (pc' := 199) hC rfl dX9_effect_198 rfl ?_
        refine gx_iconst (v := (1 : Int32)) (pc' := 200) hC rfl dX9_effect_199 (by decide) ?_
        refine gx_callVI (pc' := 203) hC (c_X9_lose cI cZ cR a (1 : Int32) _) 0 (atM0 cI cZ a _) rfl kw_X9_101 hy_X9_lose ⟨rfl, rfl⟩ (by decide) rfl rfl (Nat.le_of_ble_eq_true rfl) rfl dX9_effect_200 (fun r7 => ?_)
        exact gx_iret hC dX9_effect_203
      · refine gx_iload (pc' := 195) hC rfl dX9_effect_193 rfl ?_
        refine gx_goto hC 203 dX9_effect_195 (by decide) ?_
        exact gx_iret hC dX9_effect_203
  refine gx_ite (fun h8 => ?_) (fun h8 => ?_)
  · refine gx_case (v := (3 : Int32)) (off := 138) hC 204 h8 dX9_effect_66 (by decide) ?_
    refine gx_aload_n (pc' := 205) hC rfl dX9_effect_204 rfl ?_
    refine gx_iload (pc' := 207) hC rfl dX9_effect_205 rfl ?_
    refine gx_callVI (pc' := 210) hC (c_X9_raise cI cZ cR a x4 _) 0 (atM0 cI cZ a _) rfl kw_X9_90 hy_X9_raise ⟨rfl, rfl⟩ (by decide) rfl rfl (Nat.le_of_ble_eq_true rfl) rfl dX9_effect_207 (fun r8 => ?_)
    exact gx_iret hC dX9_effect_210
  refine gx_ite (fun h9 => ?_) (fun h9 => ?_)
  · refine gx_case (v := (4 : Int32)) (off := 145) hC 211 h9 dX9_effect_66 (by decide) ?_
    refine gx_aload_n (pc' := 212) hC rfl dX9_effect_211 rfl ?_
    refine gx_iload (pc' := 214) hC rfl dX9_effect_212 rfl ?_
    refine gx_callVI (pc' := 217) hC (c_X9_lose cI cZ cR a x4 _) 0 (atM0 cI cZ a _) rfl kw_X9_101 hy_X9_lose ⟨rfl, rfl⟩ (by decide) rfl rfl (Nat.le_of_ble_eq_true rfl) rfl dX9_effect_214 (fun r9 => ?_)
    exact gx_iret hC dX9_effect_217
  refine gx_ite (fun h10 => ?_) (fun h10 => ?_)
  · refine gx_case (v := (5 : Int32)) (off := 152) hC 218 h10 dX9_effect_66 (by decide) ?_
    refine gx_aload_n (pc' := 219) hC rfl dX9_effect_218 rfl ?_
    refine gx_iconst (v := (0 : Int32)) (pc' := 220) hC rfl dX9_effect_219 (by decide) ?_
    refine gx_callVI (pc' := 223) hC (c_X9_spoil cI cZ cR a (0 : Int32) _) 0 (atM0 cI cZ a _) rfl kw_X9_87 hy_X9_spoil ⟨rfl, rfl⟩ (by decide) rfl rfl (Nat.le_of_ble_eq_true rfl) rfl dX9_effect_220 (fun r10 => ?_)
    refine gx_istore (pc' := 225) hC [(7, .int r10.1), (6, .int ((S 9 (0 : Int32).toNatClampNeg) - z0)), (5, .int z0), (0, .ref (a 0)), (1, .int x1), (3, .int x3), (4, .int x4)] rfl dX9_effect_223 (by decide) rfl ?_
    refine gx_aload_n (pc' := 226) hC rfl dX9_effect_225 rfl ?_
    refine gx_get (pc' := 229) hC 0 (atM0 cI cZ a _) rfl inw_X9 9 (by decide) lk_X9_29 rfl rfl dX9_effect_226 ?_
    refine gx_iconst (v := (1 : Int32)) (pc' := 230) hC rfl dX9_effect_229 (by decide) ?_
    refine gx_aload_n (pc' := 231) hC rfl dX9_effect_230 rfl ?_
    refine gx_get (pc' := 234) hC 0 (atM0 cI cZ a _) rfl inw_X9 9 (by decide) lk_X9_29 rfl rfl dX9_effect_231 ?_
    refine gx_iconst (v := (0 : Int32)) (pc' := 235) hC rfl dX9_effect_234 (by decide) ?_
    refine gx_iald (pc' := 236) hC 7 0 (atM7 cI cZ a _) rfl rfl dX9_effect_235 ?_
    refine gx_iast (pc' := 237) hC 7 0 (atM7 cI cZ a _) rfl (st r10.2 9 (1 : Int32).toNatClampNeg (r10.2 9 (0 : Int32).toNatClampNeg)) (stM7 cI cZ a _ _ _) rfl dX9_effect_236 ?_
    refine gx_iload (pc' := 239) hC rfl dX9_effect_237 rfl ?_
    exact gx_iret hC dX9_effect_239
  refine gx_ite (fun h11 => ?_) (fun h11 => ?_)
  · refine gx_case (v := (6 : Int32)) (off := 174) hC 240 h11 dX9_effect_66 (by decide) ?_
    refine gx_aload_n (pc' := 241) hC rfl dX9_effect_240 rfl ?_
    refine gx_get (pc' := 244) hC 0 (atM0 cI cZ a _) rfl inw_X9 9 (by decide) lk_X9_29 rfl rfl dX9_effect_241 ?_
    refine gx_iconst (v := (1 : Int32)) (pc' := 245) hC rfl dX9_effect_244 (by decide) ?_
    refine gx_iald (pc' := 246) hC 7 0 (atM7 cI cZ a _) rfl rfl dX9_effect_245 ?_
    refine gx_if_eq (pc' := 249) hC 264 rfl dX9_effect_246 (by decide) (fun h12 => ?_) (fun h12 => ?_)
    · refine gx_iconst (v := (5 : Int32)) (pc' := 265) hC rfl dX9_effect_264 (by decide) ?_
      refine gx_goto hC 285 dX9_effect_265 (by decide) ?_
      exact gx_iret hC dX9_effect_285
    · refine gx_aload_n (pc' := 250) hC rfl dX9_effect_249 rfl ?_
      refine gx_get (pc' := 253) hC 0 (atM0 cI cZ a _) rfl inw_X9 9 (by decide) lk_X9_29 rfl rfl dX9_effect_250 ?_
      refine gx_iconst (v := (1 : Int32)) (pc' := 254) hC rfl dX9_effect_253 (by decide) ?_
      refine gx_iald (pc' := 255) hC 7 0 (atM7 cI cZ a _) rfl rfl dX9_effect_254 ?_
      refine gx_aload_n (pc' := 256) hC rfl dX9_effect_255 rfl ?_
      refine gx_get (pc' := 259) hC 0 (atM0 cI cZ a _) rfl inw_X9 9 (by decide) lk_X9_29 rfl rfl dX9_effect_256 ?_
      refine gx_iconst (v := (0 : Int32)) (pc' := 260) hC rfl dX9_effect_259 (by decide) ?_
      refine gx_iald (pc' := 261) hC 7 0 (atM7 cI cZ a _) rfl rfl dX9_effect_260 ?_
      refine gx_icmp_le (pc' := 264) hC 268 rfl dX9_effect_261 (by decide) (fun h13 => ?_) (fun h13 => ?_)
      · refine gx_aload_n (pc' := 269) hC rfl dX9_effect_268 rfl ?_
        refine gx_aload_n (pc' := 270) hC rfl dX9_effect_269 rfl ?_
        refine gx_get (pc' := 273) hC 0 (atM0 cI cZ a _) rfl inw_X9 9 (by decide) lk_X9_29 rfl rfl dX9_effect_270 ?_
        refine gx_iconst (v := (0 : Int32)) (pc' := 274) hC rfl dX9_effect_273 (by decide) ?_
        refine gx_iald (pc' := 275) hC 7 0 (atM7 cI cZ a _) rfl rfl dX9_effect_274 ?_
        refine gx_aload_n (pc' := 276) hC rfl dX9_effect_275 rfl ?_
        refine gx_get (pc' := 279) hC 0 (atM0 cI cZ a _) rfl inw_X9 9 (by decide) lk_X9_29 rfl rfl dX9_effect_276 ?_
        refine gx_iconst (v := (1 : Int32)) (pc' := 280) hC rfl dX9_effect_279 (by decide) ?_
        refine gx_iald (pc' := 281) hC 7 0 (atM7 cI cZ a _) rfl rfl dX9_effect_280 ?_
        refine gx_isub (pc' := 282) hC rfl dX9_effect_281 ?_
        refine gx_callVI (pc' := 285) hC (c_X9_lose cI cZ cR a ((S 9 (0 : Int32).toNatClampNeg) - (S 9 (1 : Int32).toNatClampNeg)) _) 0 (atM0 cI cZ a _) rfl kw_X9_101 hy_X9_lose ⟨rfl, rfl⟩ (by decide) rfl rfl (Nat.le_of_ble_eq_true rfl) rfl dX9_effect_282 (fun r11 => ?_)
        exact gx_iret hC dX9_effect_285
      · refine gx_iconst (v := (5 : Int32)) (pc' := 265) hC rfl dX9_effect_264 (by decide) ?_
        refine gx_goto hC 285 dX9_effect_265 (by decide) ?_
        exact gx_iret hC dX9_effect_285
  refine gx_ite (fun h14 => ?_) (fun h14 => ?_)
  · refine gx_case (v := (7 : Int32)) (off := 220) hC 286 h14 dX9_effect_66 (by decide) ?_
    refine gx_aload_n (pc' := 287) hC rfl dX9_effect_286 rfl ?_
    refine gx_iload (pc' := 289) hC rfl dX9_effect_287 rfl ?_
    refine gx_callVI (pc' := 292) hC (c_X9_isFirst cI cZ cR a x4 _) 0 (atM0 cI cZ a _) rfl kw_X9_104 hy_X9_isFirst ⟨rfl, rfl⟩ (by decide) rfl rfl (Nat.le_of_ble_eq_true rfl) rfl dX9_effect_289 (fun r12 => ?_)
    refine gx_if_eq (pc' := 295) hC 299 rfl dX9_effect_292 (by decide) (fun h15 => ?_) (fun h15 => ?_)
    · refine gx_iconst (v := (3 : Int32)) (pc' := 300) hC rfl dX9_effect_299 (by decide) ?_
      exact gx_iret hC dX9_effect_300
    · refine gx_iconst (v := (0 : Int32)) (pc' := 296) hC rfl dX9_effect_295 (by decide) ?_
      refine gx_goto hC 300 dX9_effect_296 (by decide) ?_
      exact gx_iret hC dX9_effect_300
  refine gx_ite (fun h16 => ?_) (fun h16 => ?_)
  · refine gx_case (v := (8 : Int32)) (off := 235) hC 301 h16 dX9_effect_66 (by decide) ?_
    refine gx_aload_n (pc' := 302) hC rfl dX9_effect_301 rfl ?_
    refine gx_callVI (pc' := 305) hC (c_X9_isClean cI cZ cR a  _) 0 (atM0 cI cZ a _) rfl kw_X9_107 hy_X9_isClean ⟨rfl, rfl⟩ (by decide) rfl rfl (Nat.le_of_ble_eq_true rfl) rfl dX9_effect_302 (fun r13 => ?_)
    refine gx_if_eq (pc' := 308) hC 312 rfl dX9_effect_305 (by decide) (fun h17 => ?_) (fun h17 => ?_)
    · refine gx_bipush (v := (6 : Int32)) (pc' := 314) hC rfl dX9_effect_312 (by decide) ?_
      exact gx_iret hC dX9_effect_314
    · refine gx_iconst (v := (0 : Int32)) (pc' := 309) hC rfl dX9_effect_308 (by decide) ?_
      refine gx_goto hC 314 dX9_effect_309 (by decide) ?_
      exact gx_iret hC dX9_effect_314
  refine gx_ite (fun h18 => ?_) (fun h18 => ?_)
  · refine gx_case (v := (9 : Int32)) (off := 249) hC 315 h18 dX9_effect_66 (by decide) ?_
    refine gx_iload (pc' := 317) hC rfl dX9_effect_315 rfl ?_
    refine gx_aload_n (pc' := 318) hC rfl dX9_effect_317 rfl ?_
    refine gx_get (pc' := 321) hC 0 (atM0 cI cZ a _) rfl inw_X9 4 (by decide) lk_X9_13 rfl rfl dX9_effect_318 ?_
    refine gx_iload_n (pc' := 322) hC rfl dX9_effect_321 rfl ?_
    refine gx_iald (pc' := 323) hC 2 0 (atM2 cI cZ a _) rfl rfl dX9_effect_322 ?_
    refine gx_icmp_lt (pc' := 326) hC 353 rfl dX9_effect_323 (by decide) (fun h19 => ?_) (fun h19 => ?_)
    · refine gx_aload_n (pc' := 354) hC rfl dX9_effect_353 rfl ?_
      refine gx_iload (pc' := 356) hC rfl dX9_effect_354 rfl ?_
      refine gx_callVI (pc' := 359) hC (c_X9_isFirst cI cZ cR a x4 _) 0 (atM0 cI cZ a _) rfl kw_X9_104 hy_X9_isFirst ⟨rfl, rfl⟩ (by decide) rfl rfl (Nat.le_of_ble_eq_true rfl) rfl dX9_effect_356 (fun r14 => ?_)
      refine gx_if_ne (pc' := 362) hC 366 rfl dX9_effect_359 (by decide) (fun h20 => ?_) (fun h20 => ?_)
      · refine gx_iconst (v := (3 : Int32)) (pc' := 363) hC rfl dX9_effect_362 (by decide) ?_
        refine gx_goto hC 379 dX9_effect_363 (by decide) ?_
        exact gx_iret hC dX9_effect_379
      · refine gx_aload_n (pc' := 367) hC rfl dX9_effect_366 rfl ?_
        refine gx_callVI (pc' := 370) hC (c_X9_isClean cI cZ cR a  _) 0 (atM0 cI cZ a _) rfl kw_X9_107 hy_X9_isClean ⟨rfl, rfl⟩ (by decide) rfl rfl (Nat.le_of_ble_eq_true rfl) rfl dX9_effect_367 (fun r15 => ?_)
        refine gx_if_eq (pc' := 373) hC 377 rfl dX9_effect_370 (by decide) (fun h21 => ?_) (fun h21 => ?_)
        · refine gx_bipush (v := (6 : Int32)) (pc' := 379) hC rfl dX9_effect_377 (by decide) ?_
          exact gx_iret hC dX9_effect_379
        · refine gx_iconst (v := (0 : Int32)) (pc' := 374) hC rfl dX9_effect_373 (by decide) ?_
          refine gx_goto hC 379 dX9_effect_374 (by decide) ?_
          exact gx_iret hC dX9_effect_379
    · refine gx_iload (pc' := 328) hC rfl dX9_effect_326 rfl ?_
      refine gx_aload_n (pc' := 329) hC rfl dX9_effect_328 rfl ?_
      refine gx_get (pc' := 332) hC 0 (atM0 cI cZ a _) rfl inw_X9 5 (by decide) lk_X9_16 rfl rfl dX9_effect_329 ?_
      refine gx_iload_n (pc' := 333) hC rfl dX9_effect_332 rfl ?_
      refine gx_iald (pc' := 334) hC 3 0 (atM3 cI cZ a _) rfl rfl dX9_effect_333 ?_
      refine gx_icmp_ge (pc' := 337) hC 353 rfl dX9_effect_334 (by decide) (fun h22 => ?_) (fun h22 => ?_)
      · refine gx_aload_n (pc' := 354) hC rfl dX9_effect_353 rfl ?_
        refine gx_iload (pc' := 356) hC rfl dX9_effect_354 rfl ?_
        refine gx_callVI (pc' := 359) hC (c_X9_isFirst cI cZ cR a x4 _) 0 (atM0 cI cZ a _) rfl kw_X9_104 hy_X9_isFirst ⟨rfl, rfl⟩ (by decide) rfl rfl (Nat.le_of_ble_eq_true rfl) rfl dX9_effect_356 (fun r16 => ?_)
        refine gx_if_ne (pc' := 362) hC 366 rfl dX9_effect_359 (by decide) (fun h23 => ?_) (fun h23 => ?_)
        · refine gx_iconst (v := (3 : Int32)) (pc' := 363) hC rfl dX9_effect_362 (by decide) ?_
          refine gx_goto hC 379 dX9_effect_363 (by decide) ?_
          exact gx_iret hC dX9_effect_379
        · refine gx_aload_n (pc' := 367) hC rfl dX9_effect_366 rfl ?_
          refine gx_callVI (pc' := 370) hC (c_X9_isClean cI cZ cR a  _) 0 (atM0 cI cZ a _) rfl kw_X9_107 hy_X9_isClean ⟨rfl, rfl⟩ (by decide) rfl rfl (Nat.le_of_ble_eq_true rfl) rfl dX9_effect_367 (fun r17 => ?_)
          refine gx_if_eq (pc' := 373) hC 377 rfl dX9_effect_370 (by decide) (fun h24 => ?_) (fun h24 => ?_)
          · refine gx_bipush (v := (6 : Int32)) (pc' := 379) hC rfl dX9_effect_377 (by decide) ?_
            exact gx_iret hC dX9_effect_379
          · refine gx_iconst (v := (0 : Int32)) (pc' := 374) hC rfl dX9_effect_373 (by decide) ?_
            refine gx_goto hC 379 dX9_effect_374 (by decide) ?_
            exact gx_iret hC dX9_effect_379
      · refine gx_aload_n (pc' := 338) hC rfl dX9_effect_337 rfl ?_
        refine gx_get (pc' := 341) hC 0 (atM0 cI cZ a _) rfl inw_X9 8 (by decide) lk_X9_26 rfl rfl dX9_effect_338 ?_
        refine gx_iload (pc' := 343) hC rfl dX9_effect_341 rfl ?_
        refine gx_zald (pc' := 344) hC 6 1 (atM6 cI cZ a _) rfl rfl dX9_effect_343 ?_
        refine gx_if_eq (pc' := 347) hC 351 rfl dX9_effect_344 (by decide) (fun h25 => ?_) (fun h25 => ?_)
        · refine gx_iconst (v := (3 : Int32)) (pc' := 352) hC rfl dX9_effect_351 (by decide) ?_
          exact gx_iret hC dX9_effect_352
        · refine gx_iconst (v := (0 : Int32)) (pc' := 348) hC rfl dX9_effect_347 (by decide) ?_
          refine gx_goto hC 352 dX9_effect_348 (by decide) ?_
          exact gx_iret hC dX9_effect_352
  refine gx_ite (fun h26 => ?_) (fun h26 => ?_)
  · refine gx_case (v := (10 : Int32)) (off := 314) hC 380 h26 dX9_effect_66 (by decide) ?_
    refine gx_aload_n (pc' := 381) hC rfl dX9_effect_380 rfl ?_
    refine gx_iload_n (pc' := 382) hC rfl dX9_effect_381 rfl ?_
    refine gx_iload (pc' := 384) hC rfl dX9_effect_382 rfl ?_
    refine gx_callVI (pc' := 387) hC (c_X9_isTarget cI cZ cR a x1 x4 _) 0 (atM0 cI cZ a _) rfl kw_X9_111 hy_X9_isTarget ⟨rfl, rfl⟩ (by decide) rfl rfl (Nat.le_of_ble_eq_true rfl) rfl dX9_effect_384 (fun r18 => ?_)
    refine gx_if_eq (pc' := 390) hC 394 rfl dX9_effect_387 (by decide) (fun h27 => ?_) (fun h27 => ?_)
    · refine gx_iconst (v := (3 : Int32)) (pc' := 395) hC rfl dX9_effect_394 (by decide) ?_
      exact gx_iret hC dX9_effect_395
    · refine gx_iconst (v := (0 : Int32)) (pc' := 391) hC rfl dX9_effect_390 (by decide) ?_
      refine gx_goto hC 395 dX9_effect_391 (by decide) ?_
      exact gx_iret hC dX9_effect_395
  refine gx_ite (fun h28 => ?_) (fun h28 => ?_)
  · refine gx_case (v := (11 : Int32)) (off := 330) hC 396 h28 dX9_effect_66 (by decide) ?_
    refine gx_aload_n (pc' := 397) hC rfl dX9_effect_396 rfl ?_
    refine gx_iload (pc' := 399) hC rfl dX9_effect_397 rfl ?_
    refine gx_callVI (pc' := 402) hC (c_X9_spoil cI cZ cR a x4 _) 0 (atM0 cI cZ a _) rfl kw_X9_87 hy_X9_spoil ⟨rfl, rfl⟩ (by decide) rfl rfl (Nat.le_of_ble_eq_true rfl) rfl dX9_effect_399 (fun r19 => ?_)
    exact gx_iret hC dX9_effect_402
  refine gx_ite (fun h29 => ?_) (fun h29 => ?_)
  · refine gx_case (v := (12 : Int32)) (off := 416) hC 482 h29 dX9_effect_66 (by decide) ?_
    refine gx_iconst (v := (0 : Int32)) (pc' := 483) hC rfl dX9_effect_482 (by decide) ?_
    exact gx_iret hC dX9_effect_483
  refine gx_ite (fun h30 => ?_) (fun h30 => ?_)
  · refine gx_case (v := (13 : Int32)) (off := 416) hC 482 h30 dX9_effect_66 (by decide) ?_
    refine gx_iconst (v := (0 : Int32)) (pc' := 483) hC rfl dX9_effect_482 (by decide) ?_
    exact gx_iret hC dX9_effect_483
  refine gx_ite (fun h31 => ?_) (fun h31 => ?_)
  · refine gx_case (v := (14 : Int32)) (off := 337) hC 403 h31 dX9_effect_66 (by decide) ?_
    refine gx_iload (pc' := 405) hC rfl dX9_effect_403 rfl ?_
    refine gx_iconst (v := (2 : Int32)) (pc' := 406) hC rfl dX9_effect_405 (by decide) ?_
    refine gx_icmp_lt (pc' := 409) hC 442 rfl dX9_effect_406 (by decide) (fun h32 => ?_) (fun h32 => ?_)
    · refine gx_bipush (v := (8 : Int32)) (pc' := 444) hC rfl dX9_effect_442 (by decide) ?_
      exact gx_iret hC dX9_effect_444
    · refine gx_aload_n (pc' := 410) hC rfl dX9_effect_409 rfl ?_
      refine gx_get (pc' := 413) hC 0 (atM0 cI cZ a _) rfl inw_X9 9 (by decide) lk_X9_29 rfl rfl dX9_effect_410 ?_
      refine gx_iconst (v := (2 : Int32)) (pc' := 414) hC rfl dX9_effect_413 (by decide) ?_
      refine gx_iald (pc' := 415) hC 7 0 (atM7 cI cZ a _) rfl rfl dX9_effect_414 ?_
      refine gx_iload (pc' := 417) hC rfl dX9_effect_415 rfl ?_
      refine gx_icmp_eq (pc' := 420) hC 442 rfl dX9_effect_417 (by decide) (fun h33 => ?_) (fun h33 => ?_)
      · refine gx_bipush (v := (8 : Int32)) (pc' := 444) hC rfl dX9_effect_442 (by decide) ?_
        exact gx_iret hC dX9_effect_444
      · refine gx_aload_n (pc' := 421) hC rfl dX9_effect_420 rfl ?_
        refine gx_get (pc' := 424) hC 0 (atM0 cI cZ a _) rfl inw_X9 9 (by decide) lk_X9_29 rfl rfl dX9_effect_421 ?_
        refine gx_iconst (v := (3 : Int32)) (pc' := 425) hC rfl dX9_effect_424 (by decide) ?_
        refine gx_iald (pc' := 426) hC 7 0 (atM7 cI cZ a _) rfl rfl dX9_effect_425 ?_
        refine gx_iload (pc' := 428) hC rfl dX9_effect_426 rfl ?_
        refine gx_icmp_eq (pc' := 431) hC 442 rfl dX9_effect_428 (by decide) (fun h34 => ?_) (fun h34 => ?_)
        · refine gx_bipush (v := (8 : Int32)) (pc' := 444) hC rfl dX9_effect_442 (by decide) ?_
          exact gx_iret hC dX9_effect_444
        · refine gx_aload_n (pc' := 432) hC rfl dX9_effect_431 rfl ?_
          refine gx_get (pc' := 435) hC 0 (atM0 cI cZ a _) rfl inw_X9 9 (by decide) lk_X9_29 rfl rfl dX9_effect_432 ?_
          refine gx_iconst (v := (4 : Int32)) (pc' := 436) hC rfl dX9_effect_435 (by decide) ?_
          refine gx_iald (pc' := 437) hC 7 0 (atM7 cI cZ a _) rfl rfl dX9_effect_436 ?_
          refine gx_iload (pc' := 439) hC rfl dX9_effect_437 rfl ?_
          refine gx_icmp_ne (pc' := 442) hC 445 rfl dX9_effect_439 (by decide) (fun h35 => ?_) (fun h35 => ?_)
          · refine gx_bipush (v := (8 : Int32)) (pc' := 444) hC rfl dX9_effect_442 (by decide) ?_
            exact gx_iret hC dX9_effect_444
          · refine gx_aload_n (pc' := 446) hC rfl dX9_effect_445 rfl ?_
            refine gx_iload (pc' := 448) hC rfl dX9_effect_446 rfl ?_
            refine gx_iload (pc' := 450) hC rfl dX9_effect_448 rfl ?_
            refine gx_callVV (pc' := 453) hC (c_X9_save cI cZ cR a x4 ((S 9 (0 : Int32).toNatClampNeg) - z0) _) 0 (atM0 cI cZ a _) rfl kw_X9_93 hy_X9_save ⟨rfl, rfl⟩ (by decide) rfl rfl (Nat.le_of_ble_eq_true rfl) rfl dX9_effect_450 (fun r20 => ?_)
            refine gx_iconst (v := (0 : Int32)) (pc' := 454) hC rfl dX9_effect_453 (by decide) ?_
            exact gx_iret hC dX9_effect_454
  refine gx_ite (fun h36 => ?_) (fun h36 => ?_)
  · refine gx_case (v := (15 : Int32)) (off := 389) hC 455 h36 dX9_effect_66 (by decide) ?_
    refine gx_iload (pc' := 457) hC rfl dX9_effect_455 rfl ?_
    refine gx_aload_n (pc' := 458) hC rfl dX9_effect_457 rfl ?_
    refine gx_get (pc' := 461) hC 0 (atM0 cI cZ a _) rfl inw_X9 9 (by decide) lk_X9_29 rfl rfl dX9_effect_458 ?_
    refine gx_iconst (v := (0 : Int32)) (pc' := 462) hC rfl dX9_effect_461 (by decide) ?_
    refine gx_iald (pc' := 463) hC 7 0 (atM7 cI cZ a _) rfl rfl dX9_effect_462 ?_
    refine gx_iconst (v := (1 : Int32)) (pc' := 464) hC rfl dX9_effect_463 (by decide) ?_
    refine gx_isub (pc' := 465) hC rfl dX9_effect_464 ?_
    refine gx_icmp_lt (pc' := 468) hC 473 rfl dX9_effect_465 (by decide) (fun h37 => ?_) (fun h37 => ?_)
    · refine gx_aload_n (pc' := 474) hC rfl dX9_effect_473 rfl ?_
      refine gx_iload (pc' := 476) hC rfl dX9_effect_474 rfl ?_
      refine gx_iload (pc' := 478) hC rfl dX9_effect_476 rfl ?_
      refine gx_callVI (pc' := 481) hC (c_X9_give cI cZ cR a x4 ((S 9 (0 : Int32).toNatClampNeg) - z0) _) 0 (atM0 cI cZ a _) rfl kw_X9_97 hy_X9_give ⟨rfl, rfl⟩ (by decide) rfl rfl (Nat.le_of_ble_eq_true rfl) rfl dX9_effect_478 (fun r21 => ?_)
      exact gx_iret hC dX9_effect_481
    · refine gx_bipush (v := (8 : Int32)) (pc' := 470) hC rfl dX9_effect_468 (by decide) ?_
      refine gx_goto hC 481 dX9_effect_470 (by decide) ?_
      exact gx_iret hC dX9_effect_481
  refine gx_dflt hC 482 dX9_effect_66 (by have := lv_neT h4 (show ((1 : Int32)).toInt = 1 by decide); have := lv_neT h5 (show ((2 : Int32)).toInt = 2 by decide); have := lv_neT h8 (show ((3 : Int32)).toInt = 3 by decide); have := lv_neT h9 (show ((4 : Int32)).toInt = 4 by decide); have := lv_neT h10 (show ((5 : Int32)).toInt = 5 by decide); have := lv_neT h11 (show ((6 : Int32)).toInt = 6 by decide); have := lv_neT h14 (show ((7 : Int32)).toInt = 7 by decide); have := lv_neT h16 (show ((8 : Int32)).toInt = 8 by decide); have := lv_neT h18 (show ((9 : Int32)).toInt = 9 by decide); have := lv_neT h26 (show ((10 : Int32)).toInt = 10 by decide); have := lv_neT h28 (show ((11 : Int32)).toInt = 11 by decide); have := lv_neT h29 (show ((12 : Int32)).toInt = 12 by decide); have := lv_neT h30 (show ((13 : Int32)).toInt = 13 by decide); have := lv_neT h31 (show ((14 : Int32)).toInt = 14 by decide); have := lv_neT h36 (show ((15 : Int32)).toInt = 15 by decide); omega) (by decide) ?_
  refine gx_iconst (v := (0 : Int32)) (pc' := 483) hC rfl dX9_effect_482 (by decide) ?_
  exact gx_iret hC dX9_effect_483
set_option maxHeartbeats 4000000 in
set_option maxRecDepth 100000 in
theorem c_X9_effect {l : Launch} {D : va_G} {tZ : Nat} (cI cZ cR : ClassId) (a : Nat → Nat) (x1 : Int32) (x2 : Int32) (S : St) : MI l D (tyl cI cZ cR) tZ (wM cI cZ a) yX9_effect cX9_effect 8 (some .int) rm_X9_effect [.ref (a 0), .int x1, .int x2] S (m_X9_effect x1 x2 S) := by
  refine gx_metI (by decide) (Nat.le_of_ble_eq_true rfl) ?_
  intro p e s m below meth c A hC
  refine gx_sub [(0, .ref (a 0)), (1, .int x1), (2, .int x2)] [0, 1, 2] rfl ?_
  rw [m_X9_effect]
  refine gx_aload_n (pc' := 1) hC rfl dX9_effect_0 rfl ?_
  refine gx_get (pc' := 4) hC 0 (atM0 cI cZ a _) rfl inw_X9 1 (by decide) lk_X9_7 rfl rfl dX9_effect_1 ?_
  refine gx_iload_n (pc' := 5) hC rfl dX9_effect_4 rfl ?_
  refine gx_iald (pc' := 6) hC 1 0 (atM1 cI cZ a _) rfl rfl dX9_effect_5 ?_
  refine gx_istore_n (pc' := 7) hC [(3, .int (S 1 x2.toNatClampNeg)), (0, .ref (a 0)), (1, .int x1), (2, .int x2)] rfl dX9_effect_6 (by decide) rfl ?_
  refine gx_iload_n (pc' := 8) hC rfl dX9_effect_7 rfl ?_
  refine gx_callSI (pc' := 11) hC (c_X9_lengthOf cI cZ cR a (S 1 x2.toNatClampNeg) _) kw_X9_79 hy_X9_lengthOf ⟨rfl, rfl⟩ (by decide) rfl rfl (Nat.le_of_ble_eq_true rfl) rfl dX9_effect_8 (fun r1 => ?_)
  refine gx_iconst (v := (1 : Int32)) (pc' := 12) hC rfl dX9_effect_11 (by decide) ?_
  refine gx_icmp_le (pc' := 15) hC 26 rfl dX9_effect_12 (by decide) (fun h1 => ?_) (fun h1 => ?_)
  · refine gx_iconst (v := (0 : Int32)) (pc' := 27) hC rfl dX9_effect_26 (by decide) ?_
    refine gx_istore (pc' := 29) hC [(4, .int (0 : Int32)), (3, .int (S 1 x2.toNatClampNeg)), (0, .ref (a 0)), (1, .int x1), (2, .int x2)] rfl dX9_effect_27 (by decide) rfl ?_
    refine gx_iload_n (pc' := 30) hC rfl dX9_effect_29 rfl ?_
    refine gx_callSI (pc' := 33) hC (c_X9_lengthOf cI cZ cR a (S 1 x2.toNatClampNeg) _) kw_X9_79 hy_X9_lengthOf ⟨rfl, rfl⟩ (by decide) rfl rfl (Nat.le_of_ble_eq_true rfl) rfl dX9_effect_30 (fun r2 => ?_)
    refine gx_iconst (v := (2 : Int32)) (pc' := 34) hC rfl dX9_effect_33 (by decide) ?_
    refine gx_icmp_le (pc' := 37) hC 48 rfl dX9_effect_34 (by decide) (fun h2 => ?_) (fun h2 => ?_)
    · refine gx_iconst (v := (0 : Int32)) (pc' := 49) hC rfl dX9_effect_48 (by decide) ?_
      exact gx_sub [(0, .ref (a 0)), (1, .int x1), (3, .int (S 1 x2.toNatClampNeg)), (4, .int (0 : Int32))] [2, 3, 1, 0] rfl (g_X9_effect_L49 hC x1 (S 1 x2.toNatClampNeg) (0 : Int32) (0 : Int32) r2.2)
    · refine gx_aload_n (pc' := 38) hC rfl dX9_effect_37 rfl ?_
      refine gx_get (pc' := 41) hC 0 (atM0 cI cZ a _) rfl inw_X9 1 (by decide) lk_X9_7 rfl rfl dX9_effect_38 ?_
      refine gx_iload_n (pc' := 42) hC rfl dX9_effect_41 rfl ?_
      refine gx_iconst (v := (2 : Int32)) (pc' := 43) hC rfl dX9_effect_42 (by decide) ?_
      refine gx_iadd (pc' := 44) hC rfl dX9_effect_43 ?_
      refine gx_iald (pc' := 45) hC 1 0 (atM1 cI cZ a _) rfl rfl dX9_effect_44 ?_
      refine gx_goto hC 49 dX9_effect_45 (by decide) ?_
      exact gx_sub [(0, .ref (a 0)), (1, .int x1), (3, .int (S 1 x2.toNatClampNeg)), (4, .int (0 : Int32))] [2, 3, 1, 0] rfl (g_X9_effect_L49 hC x1 (S 1 x2.toNatClampNeg) (0 : Int32) (r2.2 1 (x2 + (2 : Int32)).toNatClampNeg) r2.2)
  · refine gx_aload_n (pc' := 16) hC rfl dX9_effect_15 rfl ?_
    refine gx_get (pc' := 19) hC 0 (atM0 cI cZ a _) rfl inw_X9 1 (by decide) lk_X9_7 rfl rfl dX9_effect_16 ?_
    refine gx_iload_n (pc' := 20) hC rfl dX9_effect_19 rfl ?_
    refine gx_iconst (v := (1 : Int32)) (pc' := 21) hC rfl dX9_effect_20 (by decide) ?_
    refine gx_iadd (pc' := 22) hC rfl dX9_effect_21 ?_
    refine gx_iald (pc' := 23) hC 1 0 (atM1 cI cZ a _) rfl rfl dX9_effect_22 ?_
    refine gx_goto hC 27 dX9_effect_23 (by decide) ?_
    refine gx_istore (pc' := 29) hC [(4, .int (r1.2 1 (x2 + (1 : Int32)).toNatClampNeg)), (3, .int (S 1 x2.toNatClampNeg)), (0, .ref (a 0)), (1, .int x1), (2, .int x2)] rfl dX9_effect_27 (by decide) rfl ?_
    refine gx_iload_n (pc' := 30) hC rfl dX9_effect_29 rfl ?_
    refine gx_callSI (pc' := 33) hC (c_X9_lengthOf cI cZ cR a (S 1 x2.toNatClampNeg) _) kw_X9_79 hy_X9_lengthOf ⟨rfl, rfl⟩ (by decide) rfl rfl (Nat.le_of_ble_eq_true rfl) rfl dX9_effect_30 (fun r3 => ?_)
    refine gx_iconst (v := (2 : Int32)) (pc' := 34) hC rfl dX9_effect_33 (by decide) ?_
    refine gx_icmp_le (pc' := 37) hC 48 rfl dX9_effect_34 (by decide) (fun h3 => ?_) (fun h3 => ?_)
    · refine gx_iconst (v := (0 : Int32)) (pc' := 49) hC rfl dX9_effect_48 (by decide) ?_
      exact gx_sub [(0, .ref (a 0)), (1, .int x1), (3, .int (S 1 x2.toNatClampNeg)), (4, .int (r1.2 1 (x2 + (1 : Int32)).toNatClampNeg))] [2, 3, 1, 0] rfl (g_X9_effect_L49 hC x1 (S 1 x2.toNatClampNeg) (r1.2 1 (x2 + (1 : Int32)).toNatClampNeg) (0 : Int32) r3.2)
    · refine gx_aload_n (pc' := 38) hC rfl dX9_effect_37 rfl ?_
      refine gx_get (pc' := 41) hC 0 (atM0 cI cZ a _) rfl inw_X9 1 (by decide) lk_X9_7 rfl rfl dX9_effect_38 ?_
      refine gx_iload_n (pc' := 42) hC rfl dX9_effect_41 rfl ?_
      refine gx_iconst (v := (2 : Int32)) (pc' := 43) hC rfl dX9_effect_42 (by decide) ?_
      refine gx_iadd (pc' := 44) hC rfl dX9_effect_43 ?_
      refine gx_iald (pc' := 45) hC 1 0 (atM1 cI cZ a _) rfl rfl dX9_effect_44 ?_
      refine gx_goto hC 49 dX9_effect_45 (by decide) ?_
      exact gx_sub [(0, .ref (a 0)), (1, .int x1), (3, .int (S 1 x2.toNatClampNeg)), (4, .int (r1.2 1 (x2 + (1 : Int32)).toNatClampNeg))] [2, 3, 1, 0] rfl (g_X9_effect_L49 hC x1 (S 1 x2.toNatClampNeg) (r1.2 1 (x2 + (1 : Int32)).toNatClampNeg) (r3.2 1 (x2 + (2 : Int32)).toNatClampNeg) r3.2)
set_option maxHeartbeats 4000000 in
set_option maxRecDepth 100000 in
theorem g_X9_learn_L59 {p : Program} {l : Launch} {e : Env} {s : State} {m : MethodId} {args : Array Value} {below : List Frame} {meth : Method} {c : Code} {D : va_G} {cI cZ cR : ClassId} {a : Nat → Nat} {tZ : Nat} {A : Nat → Prop} (hC : CX p s m args meth c cX9_learn 4 (some .boolean) yX9_learn.cls D (tyl cI cZ cR) tZ A) : ∀ (n : Nat) (x1 : Int32) (x3 : Int32) (S : St), GX p l e rm_X9_learn s m args below meth c 4 D A (wM cI cZ a) (KI below D (tyl cI cZ cR) (wM cI cZ a) A args s) 59 [(0, .ref (a 0)), (1, .int x1), (3, .int x3)] [] S (m_X9_learn_L59 n x1 x3 S) := by
  intro n
  induction n with
  | zero => intro x1 x3 S; exact gx_none
  | succ n ih =>
    intro x1 x3 S
    rw [m_X9_learn_L59]
    refine gx_iload_n (pc' := 60) hC rfl dX9_learn_59 rfl ?_
    refine gx_iconst (v := (5 : Int32)) (pc' := 61) hC rfl dX9_learn_60 (by decide) ?_
    refine gx_icmp_ge (pc' := 64) hC 86 rfl dX9_learn_61 (by decide) (fun h5 => ?_) (fun h5 => ?_)
    · refine gx_iconst (v := (1 : Int32)) (pc' := 87) hC rfl dX9_learn_86 (by decide) ?_
      exact gx_zret hC dX9_learn_87
    · refine gx_aload_n (pc' := 65) hC rfl dX9_learn_64 rfl ?_
      refine gx_get (pc' := 68) hC 0 (atM0 cI cZ a _) rfl inw_X9 6 (by decide) lk_X9_19 rfl rfl dX9_learn_65 ?_
      refine gx_iconst (v := (5 : Int32)) (pc' := 69) hC rfl dX9_learn_68 (by decide) ?_
      refine gx_iload_n (pc' := 70) hC rfl dX9_learn_69 rfl ?_
      refine gx_imul (pc' := 71) hC rfl dX9_learn_70 ?_
      refine gx_iload_n (pc' := 72) hC rfl dX9_learn_71 rfl ?_
      refine gx_iadd (pc' := 73) hC rfl dX9_learn_72 ?_
      refine gx_aload_n (pc' := 74) hC rfl dX9_learn_73 rfl ?_
      refine gx_get (pc' := 77) hC 0 (atM0 cI cZ a _) rfl inw_X9 9 (by decide) lk_X9_29 rfl rfl dX9_learn_74 ?_
      refine gx_iload_n (pc' := 78) hC rfl dX9_learn_77 rfl ?_
      refine gx_iald (pc' := 79) hC 7 0 (atM7 cI cZ a _) rfl rfl dX9_learn_78 ?_
      refine gx_iast (pc' := 80) hC 4 0 (atM4 cI cZ a _) rfl (st S 6 (((5 : Int32) * x1) + x3).toNatClampNeg (S 9 x3.toNatClampNeg)) (stM4 cI cZ a _ _ _) rfl dX9_learn_79 ?_
      refine gx_iinc (v := (x3 + (1 : Int32))) (pc' := 83) hC [(3, .int (x3 + (1 : Int32))), (0, .ref (a 0)), (1, .int x1)] rfl dX9_learn_80 rfl rfl (by decide) rfl ?_
      refine gx_goto hC 59 dX9_learn_83 (by decide) ?_
      exact gx_sub [(0, .ref (a 0)), (1, .int x1), (3, .int (x3 + (1 : Int32)))] [1, 2, 0] rfl (ih x1 (x3 + (1 : Int32)) (st S 6 (((5 : Int32) * x1) + x3).toNatClampNeg (S 9 x3.toNatClampNeg)))
set_option maxHeartbeats 4000000 in
set_option maxRecDepth 100000 in
theorem g_X9_learn_L4 {p : Program} {l : Launch} {e : Env} {s : State} {m : MethodId} {args : Array Value} {below : List Frame} {meth : Method} {c : Code} {D : va_G} {cI cZ cR : ClassId} {a : Nat → Nat} {tZ : Nat} {A : Nat → Prop} (hC : CX p s m args meth c cX9_learn 4 (some .boolean) yX9_learn.cls D (tyl cI cZ cR) tZ A) : ∀ (n : Nat) (x1 : Int32) (x2 : Int32) (x3 : Int32) (S : St), GX p l e rm_X9_learn s m args below meth c 4 D A (wM cI cZ a) (KI below D (tyl cI cZ cR) (wM cI cZ a) A args s) 4 [(0, .ref (a 0)), (1, .int x1), (2, .int x2), (3, .int x3)] [] S (m_X9_learn_L4 n x1 x2 x3 S) := by
  intro n
  induction n with
  | zero => intro x1 x2 x3 S; exact gx_none
  | succ n ih =>
    intro x1 x2 x3 S
    rw [m_X9_learn_L4]
    refine gx_iload_n (pc' := 5) hC rfl dX9_learn_4 rfl ?_
    refine gx_iconst (v := (5 : Int32)) (pc' := 6) hC rfl dX9_learn_5 (by decide) ?_
    refine gx_icmp_ge (pc' := 9) hC 44 rfl dX9_learn_6 (by decide) (fun h1 => ?_) (fun h1 => ?_)
    · refine gx_aload_n (pc' := 45) hC rfl dX9_learn_44 rfl ?_
      refine gx_get (pc' := 48) hC 0 (atM0 cI cZ a _) rfl inw_X9 6 (by decide) lk_X9_19 rfl rfl dX9_learn_45 ?_
      refine gx_iconst (v := (5 : Int32)) (pc' := 49) hC rfl dX9_learn_48 (by decide) ?_
      refine gx_iload_n (pc' := 50) hC rfl dX9_learn_49 rfl ?_
      refine gx_imul (pc' := 51) hC rfl dX9_learn_50 ?_
      refine gx_iald (pc' := 52) hC 4 0 (atM4 cI cZ a _) rfl rfl dX9_learn_51 ?_
      refine gx_if_le (pc' := 55) hC 57 rfl dX9_learn_52 (by decide) (fun h2 => ?_) (fun h2 => ?_)
      · refine gx_iconst (v := (0 : Int32)) (pc' := 58) hC rfl dX9_learn_57 (by decide) ?_
        refine gx_istore_n (pc' := 59) hC [(3, .int (0 : Int32)), (0, .ref (a 0)), (1, .int x1), (2, .int x2)] rfl dX9_learn_58 (by decide) rfl ?_
        exact gx_sub [(0, .ref (a 0)), (1, .int x1), (3, .int (0 : Int32))] [1, 2, 0] rfl (g_X9_learn_L59 hC 10000 x1 (0 : Int32) S)
      · refine gx_iload_n (pc' := 56) hC rfl dX9_learn_55 rfl ?_
        exact gx_zret hC dX9_learn_56
    · refine gx_iload_n (pc' := 10) hC rfl dX9_learn_9 rfl ?_
      refine gx_if_eq (pc' := 13) hC 36 rfl dX9_learn_10 (by decide) (fun h3 => ?_) (fun h3 => ?_)
      · refine gx_iconst (v := (0 : Int32)) (pc' := 37) hC rfl dX9_learn_36 (by decide) ?_
        refine gx_istore_n (pc' := 38) hC [(2, .int (0 : Int32)), (0, .ref (a 0)), (1, .int x1), (3, .int x3)] rfl dX9_learn_37 (by decide) rfl ?_
        refine gx_iinc (v := (x3 + (1 : Int32))) (pc' := 41) hC [(3, .int (x3 + (1 : Int32))), (2, .int (0 : Int32)), (0, .ref (a 0)), (1, .int x1)] rfl dX9_learn_38 rfl rfl (by decide) rfl ?_
        refine gx_goto hC 4 dX9_learn_41 (by decide) ?_
        exact gx_sub [(0, .ref (a 0)), (1, .int x1), (2, .int (0 : Int32)), (3, .int (x3 + (1 : Int32)))] [2, 3, 1, 0] rfl (ih x1 (0 : Int32) (x3 + (1 : Int32)) S)
      · refine gx_aload_n (pc' := 14) hC rfl dX9_learn_13 rfl ?_
        refine gx_get (pc' := 17) hC 0 (atM0 cI cZ a _) rfl inw_X9 6 (by decide) lk_X9_19 rfl rfl dX9_learn_14 ?_
        refine gx_iconst (v := (5 : Int32)) (pc' := 18) hC rfl dX9_learn_17 (by decide) ?_
        refine gx_iload_n (pc' := 19) hC rfl dX9_learn_18 rfl ?_
        refine gx_imul (pc' := 20) hC rfl dX9_learn_19 ?_
        refine gx_iload_n (pc' := 21) hC rfl dX9_learn_20 rfl ?_
        refine gx_iadd (pc' := 22) hC rfl dX9_learn_21 ?_
        refine gx_iald (pc' := 23) hC 4 0 (atM4 cI cZ a _) rfl rfl dX9_learn_22 ?_
        refine gx_aload_n (pc' := 24) hC rfl dX9_learn_23 rfl ?_
        refine gx_get (pc' := 27) hC 0 (atM0 cI cZ a _) rfl inw_X9 9 (by decide) lk_X9_29 rfl rfl dX9_learn_24 ?_
        refine gx_iload_n (pc' := 28) hC rfl dX9_learn_27 rfl ?_
        refine gx_iald (pc' := 29) hC 7 0 (atM7 cI cZ a _) rfl rfl dX9_learn_28 ?_
        refine gx_icmp_ne (pc' := 32) hC 36 rfl dX9_learn_29 (by decide) (fun h4 => ?_) (fun h4 => ?_)
        · refine gx_iconst (v := (1 : Int32)) (pc' := 33) hC rfl dX9_learn_32 (by decide) ?_
          refine gx_goto hC 37 dX9_learn_33 (by decide) ?_
          refine gx_istore_n (pc' := 38) hC [(2, .int (1 : Int32)), (0, .ref (a 0)), (1, .int x1), (3, .int x3)] rfl dX9_learn_37 (by decide) rfl ?_
          refine gx_iinc (v := (x3 + (1 : Int32))) (pc' := 41) hC [(3, .int (x3 + (1 : Int32))), (2, .int (1 : Int32)), (0, .ref (a 0)), (1, .int x1)] rfl dX9_learn_38 rfl rfl (by decide) rfl ?_
          refine gx_goto hC 4 dX9_learn_41 (by decide) ?_
          exact gx_sub [(0, .ref (a 0)), (1, .int x1), (2, .int (1 : Int32)), (3, .int (x3 + (1 : Int32)))] [2, 3, 1, 0] rfl (ih x1 (1 : Int32) (x3 + (1 : Int32)) S)
        · refine gx_iconst (v := (0 : Int32)) (pc' := 37) hC rfl dX9_learn_36 (by decide) ?_
          refine gx_istore_n (pc' := 38) hC [(2, .int (0 : Int32)), (0, .ref (a 0)), (1, .int x1), (3, .int x3)] rfl dX9_learn_37 (by decide) rfl ?_
          refine gx_iinc (v := (x3 + (1 : Int32))) (pc' := 41) hC [(3, .int (x3 + (1 : Int32))), (2, .int (0 : Int32)), (0, .ref (a 0)), (1, .int x1)] rfl dX9_learn_38 rfl rfl (by decide) rfl ?_
          refine gx_goto hC 4 dX9_learn_41 (by decide) ?_
          exact gx_sub [(0, .ref (a 0)), (1, .int x1), (2, .int (0 : Int32)), (3, .int (x3 + (1 : Int32)))] [2, 3, 1, 0] rfl (ih x1 (0 : Int32) (x3 + (1 : Int32)) S)
set_option maxHeartbeats 4000000 in
set_option maxRecDepth 100000 in
theorem c_X9_learn {l : Launch} {D : va_G} {tZ : Nat} (cI cZ cR : ClassId) (a : Nat → Nat) (x1 : Int32) (S : St) : MI l D (tyl cI cZ cR) tZ (wM cI cZ a) yX9_learn cX9_learn 4 (some .boolean) rm_X9_learn [.ref (a 0), .int x1] S (m_X9_learn x1 S) := by
  refine gx_metI (by decide) (Nat.le_of_ble_eq_true rfl) ?_
  intro p e s m below meth c A hC
  refine gx_sub [(0, .ref (a 0)), (1, .int x1)] [0, 1] rfl ?_
  rw [m_X9_learn]
  refine gx_iconst (v := (1 : Int32)) (pc' := 1) hC rfl dX9_learn_0 (by decide) ?_
  refine gx_istore_n (pc' := 2) hC [(2, .int (1 : Int32)), (0, .ref (a 0)), (1, .int x1)] rfl dX9_learn_1 (by decide) rfl ?_
  refine gx_iconst (v := (0 : Int32)) (pc' := 3) hC rfl dX9_learn_2 (by decide) ?_
  refine gx_istore_n (pc' := 4) hC [(3, .int (0 : Int32)), (2, .int (1 : Int32)), (0, .ref (a 0)), (1, .int x1)] rfl dX9_learn_3 (by decide) rfl ?_
  exact gx_sub [(0, .ref (a 0)), (1, .int x1), (2, .int (1 : Int32)), (3, .int (0 : Int32))] [2, 3, 1, 0] rfl (g_X9_learn_L4 hC 10000 x1 (1 : Int32) (0 : Int32) S)
set_option maxHeartbeats 4000000 in
set_option maxRecDepth 100000 in
theorem g_X9_findOut_L353 {p : Program} {l : Launch} {e : Env} {s : State} {m : MethodId} {args : Array Value} {below : List Frame} {meth : Method} {c : Code} {D : va_G} {cI cZ cR : ClassId} {a : Nat → Nat} {tZ : Nat} {A : Nat → Prop} (hC : CX p s m args meth c cX9_findOut 10 (some .int) yX9_findOut.cls D (tyl cI cZ cR) tZ A) (k96 : Int32 → Int32 → St → Option (Int32 × St)) (hk96 : ∀ (x1 : Int32) (x4 : Int32) (S : St), GX p l e rm_X9_findOut s m args below meth c 10 D A (wM cI cZ a) (KI below D (tyl cI cZ cR) (wM cI cZ a) A args s) 96 [(0, .ref (a 0)), (1, .int x1), (4, .int x4)] [] S (k96 x1 x4 S)) (x1 : Int32) (x8 : Int32) (z0 : Int32) (S : St) : GX p l e rm_X9_findOut s m args below meth c 10 D A (wM cI cZ a) (KI below D (tyl cI cZ cR) (wM cI cZ a) A args s) 353 [(0, .ref (a 0)), (1, .int x1), (8, .int x8)] [.int z0] S (m_X9_findOut_L353 k96 x1 x8 z0 S) := by
  rw [m_X9_findOut_L353]
  refine gx_istore (pc' := 355) hC [(9, .int z0), (0, .ref (a 0)), (1, .int x1), (8, .int x8)] rfl dX9_findOut_353 (by decide) rfl ?_
  refine gx_iload (pc' := 357) hC rfl dX9_findOut_355 rfl ?_
  refine gx_if_eq (pc' := 360) hC 376 rfl dX9_findOut_357 (by decide) (fun h18 => ?_) (fun h18 => ?_)
  · refine gx_aload_n (pc' := 377) hC rfl dX9_findOut_376 rfl ?_
    refine gx_get (pc' := 380) hC 0 (atM0 cI cZ a _) rfl inw_X9 4 (by decide) lk_X9_13 rfl rfl dX9_findOut_377 ?_
    refine gx_iload_n (pc' := 381) hC rfl dX9_findOut_380 rfl ?_
    refine gx_iald (pc' := 382) hC 2 0 (atM2 cI cZ a _) rfl rfl dX9_findOut_381 ?_
    refine gx_istore (pc' := 384) hC [(4, .int (S 4 x1.toNatClampNeg)), (9, .int z0), (0, .ref (a 0)), (1, .int x1), (8, .int x8)] rfl dX9_findOut_382 (by decide) rfl ?_
    refine gx_goto hC 96 dX9_findOut_384 (by decide) ?_
    exact gx_sub [(0, .ref (a 0)), (1, .int x1), (4, .int (S 4 x1.toNatClampNeg))] [2, 3, 0] rfl (hk96 x1 (S 4 x1.toNatClampNeg) S)
  · refine gx_aload_n (pc' := 361) hC rfl dX9_findOut_360 rfl ?_
    refine gx_iload (pc' := 363) hC rfl dX9_findOut_361 rfl ?_
    refine gx_callVI (pc' := 366) hC (c_X9_learn cI cZ cR a x8 _) 0 (atM0 cI cZ a _) rfl kw_X9_118 hy_X9_learn ⟨rfl, rfl⟩ (by decide) rfl rfl (Nat.le_of_ble_eq_true rfl) rfl dX9_findOut_363 (fun r9 => ?_)
    refine gx_if_ne (pc' := 369) hC 376 rfl dX9_findOut_366 (by decide) (fun h19 => ?_) (fun h19 => ?_)
    · refine gx_sipush (v := (700 : Int32)) (pc' := 372) hC rfl dX9_findOut_369 (by decide) ?_
      refine gx_iload (pc' := 374) hC rfl dX9_findOut_372 rfl ?_
      refine gx_iadd (pc' := 375) hC rfl dX9_findOut_374 ?_
      exact gx_iret hC dX9_findOut_375
    · refine gx_aload_n (pc' := 377) hC rfl dX9_findOut_376 rfl ?_
      refine gx_get (pc' := 380) hC 0 (atM0 cI cZ a _) rfl inw_X9 4 (by decide) lk_X9_13 rfl rfl dX9_findOut_377 ?_
      refine gx_iload_n (pc' := 381) hC rfl dX9_findOut_380 rfl ?_
      refine gx_iald (pc' := 382) hC 2 0 (atM2 cI cZ a _) rfl rfl dX9_findOut_381 ?_
      refine gx_istore (pc' := 384) hC [(4, .int (r9.2 4 x1.toNatClampNeg)), (9, .int z0), (0, .ref (a 0)), (1, .int x1), (8, .int x8)] rfl dX9_findOut_382 (by decide) rfl ?_
      refine gx_goto hC 96 dX9_findOut_384 (by decide) ?_
      exact gx_sub [(0, .ref (a 0)), (1, .int x1), (4, .int (r9.2 4 x1.toNatClampNeg))] [2, 3, 0] rfl (hk96 x1 (r9.2 4 x1.toNatClampNeg) r9.2)
set_option maxHeartbeats 4000000 in
set_option maxRecDepth 100000 in
theorem g_X9_findOut_L312 {p : Program} {l : Launch} {e : Env} {s : State} {m : MethodId} {args : Array Value} {below : List Frame} {meth : Method} {c : Code} {D : va_G} {cI cZ cR : ClassId} {a : Nat → Nat} {tZ : Nat} {A : Nat → Prop} (hC : CX p s m args meth c cX9_findOut 10 (some .int) yX9_findOut.cls D (tyl cI cZ cR) tZ A) (k96 : Int32 → Int32 → St → Option (Int32 × St)) (hk96 : ∀ (x1 : Int32) (x4 : Int32) (S : St), GX p l e rm_X9_findOut s m args below meth c 10 D A (wM cI cZ a) (KI below D (tyl cI cZ cR) (wM cI cZ a) A args s) 96 [(0, .ref (a 0)), (1, .int x1), (4, .int x4)] [] S (k96 x1 x4 S)) (x1 : Int32) (x6 : Int32) (x8 : Int32) (S : St) : GX p l e rm_X9_findOut s m args below meth c 10 D A (wM cI cZ a) (KI below D (tyl cI cZ cR) (wM cI cZ a) A args s) 312 [(0, .ref (a 0)), (1, .int x1), (6, .int x6), (8, .int x8)] [] S (m_X9_findOut_L312 k96 x1 x6 x8 S) := by
  rw [m_X9_findOut_L312]
  refine gx_iload (pc' := 314) hC rfl dX9_findOut_312 rfl ?_
  refine gx_bipush (v := (10 : Int32)) (pc' := 316) hC rfl dX9_findOut_314 (by decide) ?_
  refine gx_icmp_eq (pc' := 319) hC 348 rfl dX9_findOut_316 (by decide) (fun h14 => ?_) (fun h14 => ?_)
  · refine gx_iconst (v := (1 : Int32)) (pc' := 349) hC rfl dX9_findOut_348 (by decide) ?_
    refine gx_goto hC 353 dX9_findOut_349 (by decide) ?_
    exact gx_sub [(0, .ref (a 0)), (1, .int x1), (8, .int x8)] [0, 1, 3] rfl (g_X9_findOut_L353 hC k96 hk96 x1 x8 (1 : Int32) S)
  · refine gx_iload (pc' := 321) hC rfl dX9_findOut_319 rfl ?_
    refine gx_bipush (v := (9 : Int32)) (pc' := 323) hC rfl dX9_findOut_321 (by decide) ?_
    refine gx_icmp_ne (pc' := 326) hC 352 rfl dX9_findOut_323 (by decide) (fun h15 => ?_) (fun h15 => ?_)
    · refine gx_iload (pc' := 328) hC rfl dX9_findOut_326 rfl ?_
      refine gx_aload_n (pc' := 329) hC rfl dX9_findOut_328 rfl ?_
      refine gx_get (pc' := 332) hC 0 (atM0 cI cZ a _) rfl inw_X9 4 (by decide) lk_X9_13 rfl rfl dX9_findOut_329 ?_
      refine gx_iload_n (pc' := 333) hC rfl dX9_findOut_332 rfl ?_
      refine gx_iald (pc' := 334) hC 2 0 (atM2 cI cZ a _) rfl rfl dX9_findOut_333 ?_
      refine gx_icmp_lt (pc' := 337) hC 352 rfl dX9_findOut_334 (by decide) (fun h16 => ?_) (fun h16 => ?_)
      · refine gx_iconst (v := (0 : Int32)) (pc' := 353) hC rfl dX9_findOut_352 (by decide) ?_
        exact gx_sub [(0, .ref (a 0)), (1, .int x1), (8, .int x8)] [0, 1, 3] rfl (g_X9_findOut_L353 hC k96 hk96 x1 x8 (0 : Int32) S)
      · refine gx_iload (pc' := 339) hC rfl dX9_findOut_337 rfl ?_
        refine gx_aload_n (pc' := 340) hC rfl dX9_findOut_339 rfl ?_
        refine gx_get (pc' := 343) hC 0 (atM0 cI cZ a _) rfl inw_X9 5 (by decide) lk_X9_16 rfl rfl dX9_findOut_340 ?_
        refine gx_iload_n (pc' := 344) hC rfl dX9_findOut_343 rfl ?_
        refine gx_iald (pc' := 345) hC 3 0 (atM3 cI cZ a _) rfl rfl dX9_findOut_344 ?_
        refine gx_icmp_ge (pc' := 348) hC 352 rfl dX9_findOut_345 (by decide) (fun h17 => ?_) (fun h17 => ?_)
        · refine gx_iconst (v := (0 : Int32)) (pc' := 353) hC rfl dX9_findOut_352 (by decide) ?_
          exact gx_sub [(0, .ref (a 0)), (1, .int x1), (8, .int x8)] [0, 1, 3] rfl (g_X9_findOut_L353 hC k96 hk96 x1 x8 (0 : Int32) S)
        · refine gx_iconst (v := (1 : Int32)) (pc' := 349) hC rfl dX9_findOut_348 (by decide) ?_
          refine gx_goto hC 353 dX9_findOut_349 (by decide) ?_
          exact gx_sub [(0, .ref (a 0)), (1, .int x1), (8, .int x8)] [0, 1, 3] rfl (g_X9_findOut_L353 hC k96 hk96 x1 x8 (1 : Int32) S)
    · refine gx_iconst (v := (0 : Int32)) (pc' := 353) hC rfl dX9_findOut_352 (by decide) ?_
      exact gx_sub [(0, .ref (a 0)), (1, .int x1), (8, .int x8)] [0, 1, 3] rfl (g_X9_findOut_L353 hC k96 hk96 x1 x8 (0 : Int32) S)
set_option maxHeartbeats 4000000 in
set_option maxRecDepth 100000 in
theorem g_X9_findOut_L280 {p : Program} {l : Launch} {e : Env} {s : State} {m : MethodId} {args : Array Value} {below : List Frame} {meth : Method} {c : Code} {D : va_G} {cI cZ cR : ClassId} {a : Nat → Nat} {tZ : Nat} {A : Nat → Prop} (hC : CX p s m args meth c cX9_findOut 10 (some .int) yX9_findOut.cls D (tyl cI cZ cR) tZ A) (k96 : Int32 → Int32 → St → Option (Int32 × St)) (hk96 : ∀ (x1 : Int32) (x4 : Int32) (S : St), GX p l e rm_X9_findOut s m args below meth c 10 D A (wM cI cZ a) (KI below D (tyl cI cZ cR) (wM cI cZ a) A args s) 96 [(0, .ref (a 0)), (1, .int x1), (4, .int x4)] [] S (k96 x1 x4 S)) (x1 : Int32) (x6 : Int32) (x7 : Int32) (z0 : Int32) (S : St) : GX p l e rm_X9_findOut s m args below meth c 10 D A (wM cI cZ a) (KI below D (tyl cI cZ cR) (wM cI cZ a) A args s) 280 [(0, .ref (a 0)), (1, .int x1), (6, .int x6), (7, .int x7)] [.int z0] S (m_X9_findOut_L280 k96 x1 x6 x7 z0 S) := by
  rw [m_X9_findOut_L280]
  refine gx_istore (pc' := 282) hC [(8, .int z0), (0, .ref (a 0)), (1, .int x1), (6, .int x6), (7, .int x7)] rfl dX9_findOut_280 (by decide) rfl ?_
  refine gx_iload (pc' := 284) hC rfl dX9_findOut_282 rfl ?_
  refine gx_bipush (v := (8 : Int32)) (pc' := 286) hC rfl dX9_findOut_284 (by decide) ?_
  refine gx_icmp_eq (pc' := 289) hC 312 rfl dX9_findOut_286 (by decide) (fun h11 => ?_) (fun h11 => ?_)
  · exact gx_sub [(0, .ref (a 0)), (1, .int x1), (6, .int x6), (8, .int z0)] [1, 2, 3, 0] rfl (g_X9_findOut_L312 hC k96 hk96 x1 x6 z0 S)
  · refine gx_iload (pc' := 291) hC rfl dX9_findOut_289 rfl ?_
    refine gx_bipush (v := (9 : Int32)) (pc' := 293) hC rfl dX9_findOut_291 (by decide) ?_
    refine gx_icmp_eq (pc' := 296) hC 312 rfl dX9_findOut_293 (by decide) (fun h12 => ?_) (fun h12 => ?_)
    · exact gx_sub [(0, .ref (a 0)), (1, .int x1), (6, .int x6), (8, .int z0)] [1, 2, 3, 0] rfl (g_X9_findOut_L312 hC k96 hk96 x1 x6 z0 S)
    · refine gx_aload_n (pc' := 297) hC rfl dX9_findOut_296 rfl ?_
      refine gx_iload (pc' := 299) hC rfl dX9_findOut_297 rfl ?_
      refine gx_callVI (pc' := 302) hC (c_X9_learn cI cZ cR a x7 _) 0 (atM0 cI cZ a _) rfl kw_X9_118 hy_X9_learn ⟨rfl, rfl⟩ (by decide) rfl rfl (Nat.le_of_ble_eq_true rfl) rfl dX9_findOut_299 (fun r8 => ?_)
      refine gx_if_ne (pc' := 305) hC 312 rfl dX9_findOut_302 (by decide) (fun h13 => ?_) (fun h13 => ?_)
      · refine gx_sipush (v := (700 : Int32)) (pc' := 308) hC rfl dX9_findOut_305 (by decide) ?_
        refine gx_iload (pc' := 310) hC rfl dX9_findOut_308 rfl ?_
        refine gx_iadd (pc' := 311) hC rfl dX9_findOut_310 ?_
        exact gx_iret hC dX9_findOut_311
      · exact gx_sub [(0, .ref (a 0)), (1, .int x1), (6, .int x6), (8, .int z0)] [1, 2, 3, 0] rfl (g_X9_findOut_L312 hC k96 hk96 x1 x6 z0 r8.2)
set_option maxHeartbeats 4000000 in
set_option maxRecDepth 100000 in
theorem g_X9_findOut_L185 {p : Program} {l : Launch} {e : Env} {s : State} {m : MethodId} {args : Array Value} {below : List Frame} {meth : Method} {c : Code} {D : va_G} {cI cZ cR : ClassId} {a : Nat → Nat} {tZ : Nat} {A : Nat → Prop} (hC : CX p s m args meth c cX9_findOut 10 (some .int) yX9_findOut.cls D (tyl cI cZ cR) tZ A) (k96 : Int32 → Int32 → St → Option (Int32 × St)) (hk96 : ∀ (x1 : Int32) (x4 : Int32) (S : St), GX p l e rm_X9_findOut s m args below meth c 10 D A (wM cI cZ a) (KI below D (tyl cI cZ cR) (wM cI cZ a) A args s) 96 [(0, .ref (a 0)), (1, .int x1), (4, .int x4)] [] S (k96 x1 x4 S)) : ∀ (n : Nat) (x1 : Int32) (x4 : Int32) (x5 : Int32) (S : St), GX p l e rm_X9_findOut s m args below meth c 10 D A (wM cI cZ a) (KI below D (tyl cI cZ cR) (wM cI cZ a) A args s) 185 [(0, .ref (a 0)), (1, .int x1), (4, .int x4), (5, .int x5)] [] S (m_X9_findOut_L185 k96 n x1 x4 x5 S) := by
  intro n
  induction n with
  | zero => intro x1 x4 x5 S; exact gx_none
  | succ n ih =>
    intro x1 x4 x5 S
    rw [m_X9_findOut_L185]
    refine gx_iload (pc' := 187) hC rfl dX9_findOut_185 rfl ?_
    refine gx_iconst (v := (5 : Int32)) (pc' := 188) hC rfl dX9_findOut_187 (by decide) ?_
    refine gx_icmp_ge (pc' := 191) hC 216 rfl dX9_findOut_188 (by decide) (fun h8 => ?_) (fun h8 => ?_)
    · refine gx_aload_n (pc' := 217) hC rfl dX9_findOut_216 rfl ?_
      refine gx_iload_n (pc' := 218) hC rfl dX9_findOut_217 rfl ?_
      refine gx_iload (pc' := 220) hC rfl dX9_findOut_218 rfl ?_
      refine gx_callVI (pc' := 223) hC (c_X9_effect cI cZ cR a x1 x4 _) 0 (atM0 cI cZ a _) rfl kw_X9_121 hy_X9_effect ⟨rfl, rfl⟩ (by decide) rfl rfl (Nat.le_of_ble_eq_true rfl) rfl dX9_findOut_220 (fun r5 => ?_)
      refine gx_istore (pc' := 225) hC [(5, .int r5.1), (0, .ref (a 0)), (1, .int x1), (4, .int x4)] rfl dX9_findOut_223 (by decide) rfl ?_
      refine gx_iload (pc' := 227) hC rfl dX9_findOut_225 rfl ?_
      refine gx_if_le (pc' := 230) hC 239 rfl dX9_findOut_227 (by decide) (fun h9 => ?_) (fun h9 => ?_)
      · refine gx_aload_n (pc' := 240) hC rfl dX9_findOut_239 rfl ?_
        refine gx_get (pc' := 243) hC 0 (atM0 cI cZ a _) rfl inw_X9 1 (by decide) lk_X9_7 rfl rfl dX9_findOut_240 ?_
        refine gx_iload (pc' := 245) hC rfl dX9_findOut_243 rfl ?_
        refine gx_iald (pc' := 246) hC 1 0 (atM1 cI cZ a _) rfl rfl dX9_findOut_245 ?_
        refine gx_istore (pc' := 248) hC [(6, .int (r5.2 1 x4.toNatClampNeg)), (5, .int r5.1), (0, .ref (a 0)), (1, .int x1), (4, .int x4)] rfl dX9_findOut_246 (by decide) rfl ?_
        refine gx_iload (pc' := 250) hC rfl dX9_findOut_248 rfl ?_
        refine gx_iload (pc' := 252) hC rfl dX9_findOut_250 rfl ?_
        refine gx_callSI (pc' := 255) hC (c_X9_lengthOf cI cZ cR a (r5.2 1 x4.toNatClampNeg) _) kw_X9_79 hy_X9_lengthOf ⟨rfl, rfl⟩ (by decide) rfl rfl (Nat.le_of_ble_eq_true rfl) rfl dX9_findOut_252 (fun r6 => ?_)
        refine gx_iadd (pc' := 256) hC rfl dX9_findOut_255 ?_
        refine gx_istore (pc' := 258) hC [(7, .int (x4 + r6.1)), (6, .int (r5.2 1 x4.toNatClampNeg)), (5, .int r5.1), (0, .ref (a 0)), (1, .int x1), (4, .int x4)] rfl dX9_findOut_256 (by decide) rfl ?_
        refine gx_iload (pc' := 260) hC rfl dX9_findOut_258 rfl ?_
        refine gx_callSI (pc' := 263) hC (c_X9_lengthOf cI cZ cR a (r5.2 1 x4.toNatClampNeg) _) kw_X9_79 hy_X9_lengthOf ⟨rfl, rfl⟩ (by decide) rfl rfl (Nat.le_of_ble_eq_true rfl) rfl dX9_findOut_260 (fun r7 => ?_)
        refine gx_iconst (v := (1 : Int32)) (pc' := 264) hC rfl dX9_findOut_263 (by decide) ?_
        refine gx_icmp_le (pc' := 267) hC 279 rfl dX9_findOut_264 (by decide) (fun h10 => ?_) (fun h10 => ?_)
        · refine gx_iconst (v := (0 : Int32)) (pc' := 280) hC rfl dX9_findOut_279 (by decide) ?_
          exact gx_sub [(0, .ref (a 0)), (1, .int x1), (6, .int (r5.2 1 x4.toNatClampNeg)), (7, .int (x4 + r6.1))] [3, 4, 1, 0] rfl (g_X9_findOut_L280 hC k96 hk96 x1 (r5.2 1 x4.toNatClampNeg) (x4 + r6.1) (0 : Int32) r7.2)
        · refine gx_aload_n (pc' := 268) hC rfl dX9_findOut_267 rfl ?_
          refine gx_get (pc' := 271) hC 0 (atM0 cI cZ a _) rfl inw_X9 1 (by decide) lk_X9_7 rfl rfl dX9_findOut_268 ?_
          refine gx_iload (pc' := 273) hC rfl dX9_findOut_271 rfl ?_
          refine gx_iconst (v := (1 : Int32)) (pc' := 274) hC rfl dX9_findOut_273 (by decide) ?_
          refine gx_iadd (pc' := 275) hC rfl dX9_findOut_274 ?_
          refine gx_iald (pc' := 276) hC 1 0 (atM1 cI cZ a _) rfl rfl dX9_findOut_275 ?_
          refine gx_goto hC 280 dX9_findOut_276 (by decide) ?_
          exact gx_sub [(0, .ref (a 0)), (1, .int x1), (6, .int (r5.2 1 x4.toNatClampNeg)), (7, .int (x4 + r6.1))] [3, 4, 1, 0] rfl (g_X9_findOut_L280 hC k96 hk96 x1 (r5.2 1 x4.toNatClampNeg) (x4 + r6.1) (r7.2 1 (x4 + (1 : Int32)).toNatClampNeg) r7.2)
      · refine gx_bipush (v := (100 : Int32)) (pc' := 232) hC rfl dX9_findOut_230 (by decide) ?_
        refine gx_iload (pc' := 234) hC rfl dX9_findOut_232 rfl ?_
        refine gx_imul (pc' := 235) hC rfl dX9_findOut_234 ?_
        refine gx_iload (pc' := 237) hC rfl dX9_findOut_235 rfl ?_
        refine gx_iadd (pc' := 238) hC rfl dX9_findOut_237 ?_
        exact gx_iret hC dX9_findOut_238
    · refine gx_aload_n (pc' := 192) hC rfl dX9_findOut_191 rfl ?_
      refine gx_get (pc' := 195) hC 0 (atM0 cI cZ a _) rfl inw_X9 9 (by decide) lk_X9_29 rfl rfl dX9_findOut_192 ?_
      refine gx_iload (pc' := 197) hC rfl dX9_findOut_195 rfl ?_
      refine gx_aload_n (pc' := 198) hC rfl dX9_findOut_197 rfl ?_
      refine gx_get (pc' := 201) hC 0 (atM0 cI cZ a _) rfl inw_X9 6 (by decide) lk_X9_19 rfl rfl dX9_findOut_198 ?_
      refine gx_iconst (v := (5 : Int32)) (pc' := 202) hC rfl dX9_findOut_201 (by decide) ?_
      refine gx_iload (pc' := 204) hC rfl dX9_findOut_202 rfl ?_
      refine gx_imul (pc' := 205) hC rfl dX9_findOut_204 ?_
      refine gx_iload (pc' := 207) hC rfl dX9_findOut_205 rfl ?_
      refine gx_iadd (pc' := 208) hC rfl dX9_findOut_207 ?_
      refine gx_iald (pc' := 209) hC 4 0 (atM4 cI cZ a _) rfl rfl dX9_findOut_208 ?_
      refine gx_iast (pc' := 210) hC 7 0 (atM7 cI cZ a _) rfl (st S 9 x5.toNatClampNeg (S 6 (((5 : Int32) * x4) + x5).toNatClampNeg)) (stM7 cI cZ a _ _ _) rfl dX9_findOut_209 ?_
      refine gx_iinc (v := (x5 + (1 : Int32))) (pc' := 213) hC [(5, .int (x5 + (1 : Int32))), (0, .ref (a 0)), (1, .int x1), (4, .int x4)] rfl dX9_findOut_210 rfl rfl (by decide) rfl ?_
      refine gx_goto hC 185 dX9_findOut_213 (by decide) ?_
      exact gx_sub [(0, .ref (a 0)), (1, .int x1), (4, .int x4), (5, .int (x5 + (1 : Int32)))] [1, 2, 3, 0] rfl (ih x1 x4 (x5 + (1 : Int32)) (st S 9 x5.toNatClampNeg (S 6 (((5 : Int32) * x4) + x5).toNatClampNeg)))
set_option maxHeartbeats 4000000 in
set_option maxRecDepth 100000 in
theorem g_X9_findOut_L96 {p : Program} {l : Launch} {e : Env} {s : State} {m : MethodId} {args : Array Value} {below : List Frame} {meth : Method} {c : Code} {D : va_G} {cI cZ cR : ClassId} {a : Nat → Nat} {tZ : Nat} {A : Nat → Prop} (hC : CX p s m args meth c cX9_findOut 10 (some .int) yX9_findOut.cls D (tyl cI cZ cR) tZ A) : ∀ (n : Nat) (x1 : Int32) (x4 : Int32) (S : St), GX p l e rm_X9_findOut s m args below meth c 10 D A (wM cI cZ a) (KI below D (tyl cI cZ cR) (wM cI cZ a) A args s) 96 [(0, .ref (a 0)), (1, .int x1), (4, .int x4)] [] S (m_X9_findOut_L96 n x1 x4 S) := by
  intro n
  induction n with
  | zero => intro x1 x4 S; exact gx_none
  | succ n ih =>
    intro x1 x4 S
    rw [m_X9_findOut_L96]
    refine gx_iload (pc' := 98) hC rfl dX9_findOut_96 rfl ?_
    refine gx_aload_n (pc' := 99) hC rfl dX9_findOut_98 rfl ?_
    refine gx_get (pc' := 102) hC 0 (atM0 cI cZ a _) rfl inw_X9 5 (by decide) lk_X9_16 rfl rfl dX9_findOut_99 ?_
    refine gx_iload_n (pc' := 103) hC rfl dX9_findOut_102 rfl ?_
    refine gx_iald (pc' := 104) hC 3 0 (atM3 cI cZ a _) rfl rfl dX9_findOut_103 ?_
    refine gx_icmp_gt (pc' := 107) hC 387 rfl dX9_findOut_104 (by decide) (fun h3 => ?_) (fun h3 => ?_)
    · refine gx_iconst (v := (0 : Int32)) (pc' := 388) hC rfl dX9_findOut_387 (by decide) ?_
      exact gx_iret hC dX9_findOut_388
    · refine gx_aload_n (pc' := 108) hC rfl dX9_findOut_107 rfl ?_
      refine gx_get (pc' := 111) hC 0 (atM0 cI cZ a _) rfl inw_X9 6 (by decide) lk_X9_19 rfl rfl dX9_findOut_108 ?_
      refine gx_iconst (v := (5 : Int32)) (pc' := 112) hC rfl dX9_findOut_111 (by decide) ?_
      refine gx_iload (pc' := 114) hC rfl dX9_findOut_112 rfl ?_
      refine gx_imul (pc' := 115) hC rfl dX9_findOut_114 ?_
      refine gx_iald (pc' := 116) hC 4 0 (atM4 cI cZ a _) rfl rfl dX9_findOut_115 ?_
      refine gx_if_eq (pc' := 119) hC 129 rfl dX9_findOut_116 (by decide) (fun h4 => ?_) (fun h4 => ?_)
      · refine gx_iinc (v := (x4 + (1 : Int32))) (pc' := 132) hC [(4, .int (x4 + (1 : Int32))), (0, .ref (a 0)), (1, .int x1)] rfl dX9_findOut_129 rfl rfl (by decide) rfl ?_
        refine gx_goto hC 96 dX9_findOut_132 (by decide) ?_
        exact gx_sub [(0, .ref (a 0)), (1, .int x1), (4, .int (x4 + (1 : Int32)))] [1, 2, 0] rfl (ih x1 (x4 + (1 : Int32)) S)
      · refine gx_aload_n (pc' := 120) hC rfl dX9_findOut_119 rfl ?_
        refine gx_get (pc' := 123) hC 0 (atM0 cI cZ a _) rfl inw_X9 7 (by decide) lk_X9_22 rfl rfl dX9_findOut_120 ?_
        refine gx_iload (pc' := 125) hC rfl dX9_findOut_123 rfl ?_
        refine gx_zald (pc' := 126) hC 5 1 (atM5 cI cZ a _) rfl rfl dX9_findOut_125 ?_
        refine gx_if_eq (pc' := 129) hC 135 rfl dX9_findOut_126 (by decide) (fun h5 => ?_) (fun h5 => ?_)
        · refine gx_aload_n (pc' := 136) hC rfl dX9_findOut_135 rfl ?_
          refine gx_get (pc' := 139) hC 0 (atM0 cI cZ a _) rfl inw_X9 7 (by decide) lk_X9_22 rfl rfl dX9_findOut_136 ?_
          refine gx_iload (pc' := 141) hC rfl dX9_findOut_139 rfl ?_
          refine gx_iconst (v := (1 : Int32)) (pc' := 142) hC rfl dX9_findOut_141 (by decide) ?_
          refine gx_zast (pc' := 143) hC 5 1 (atM5 cI cZ a _) rfl (by decide) (st S 7 x4.toNatClampNeg (1 : Int32)) (stM5 cI cZ a _ _ _) rfl dX9_findOut_142 ?_
          refine gx_iload (pc' := 145) hC rfl dX9_findOut_143 rfl ?_
          refine gx_aload_n (pc' := 146) hC rfl dX9_findOut_145 rfl ?_
          refine gx_get (pc' := 149) hC 0 (atM0 cI cZ a _) rfl inw_X9 5 (by decide) lk_X9_16 rfl rfl dX9_findOut_146 ?_
          refine gx_iload_n (pc' := 150) hC rfl dX9_findOut_149 rfl ?_
          refine gx_iald (pc' := 151) hC 3 0 (atM3 cI cZ a _) rfl rfl dX9_findOut_150 ?_
          refine gx_icmp_ne (pc' := 154) hC 161 rfl dX9_findOut_151 (by decide) (fun h6 => ?_) (fun h6 => ?_)
          · refine gx_sipush (v := (200 : Int32)) (pc' := 157) hC rfl dX9_findOut_154 (by decide) ?_
            refine gx_iload (pc' := 159) hC rfl dX9_findOut_157 rfl ?_
            refine gx_iadd (pc' := 160) hC rfl dX9_findOut_159 ?_
            exact gx_iret hC dX9_findOut_160
          · refine gx_aload_n (pc' := 162) hC rfl dX9_findOut_161 rfl ?_
            refine gx_iload (pc' := 164) hC rfl dX9_findOut_162 rfl ?_
            refine gx_aload_n (pc' := 165) hC rfl dX9_findOut_164 rfl ?_
            refine gx_get (pc' := 168) hC 0 (atM0 cI cZ a _) rfl inw_X9 5 (by decide) lk_X9_16 rfl rfl dX9_findOut_165 ?_
            refine gx_iload_n (pc' := 169) hC rfl dX9_findOut_168 rfl ?_
            refine gx_iald (pc' := 170) hC 3 0 (atM3 cI cZ a _) rfl rfl dX9_findOut_169 ?_
            refine gx_callVI (pc' := 173) hC (c_X9_isWhole cI cZ cR a x4 ((st S 7 x4.toNatClampNeg (1 : Int32)) 5 x1.toNatClampNeg) _) 0 (atM0 cI cZ a _) rfl kw_X9_115 hy_X9_isWhole ⟨rfl, rfl⟩ (by decide) rfl rfl (Nat.le_of_ble_eq_true rfl) rfl dX9_findOut_170 (fun r4 => ?_)
            refine gx_if_ne (pc' := 176) hC 182 rfl dX9_findOut_173 (by decide) (fun h7 => ?_) (fun h7 => ?_)
            · refine gx_bipush (v := (100 : Int32)) (pc' := 178) hC rfl dX9_findOut_176 (by decide) ?_
              refine gx_iload (pc' := 180) hC rfl dX9_findOut_178 rfl ?_
              refine gx_iadd (pc' := 181) hC rfl dX9_findOut_180 ?_
              exact gx_iret hC dX9_findOut_181
            · refine gx_iconst (v := (0 : Int32)) (pc' := 183) hC rfl dX9_findOut_182 (by decide) ?_
              refine gx_istore (pc' := 185) hC [(5, .int (0 : Int32)), (0, .ref (a 0)), (1, .int x1), (4, .int x4)] rfl dX9_findOut_183 (by decide) rfl ?_
              exact gx_sub [(0, .ref (a 0)), (1, .int x1), (4, .int x4), (5, .int (0 : Int32))] [1, 2, 3, 0] rfl (g_X9_findOut_L185 hC (m_X9_findOut_L96 n) ih 10000 x1 x4 (0 : Int32) r4.2)
        · refine gx_iinc (v := (x4 + (1 : Int32))) (pc' := 132) hC [(4, .int (x4 + (1 : Int32))), (0, .ref (a 0)), (1, .int x1)] rfl dX9_findOut_129 rfl rfl (by decide) rfl ?_
          refine gx_goto hC 96 dX9_findOut_132 (by decide) ?_
          exact gx_sub [(0, .ref (a 0)), (1, .int x1), (4, .int (x4 + (1 : Int32)))] [1, 2, 0] rfl (ih x1 (x4 + (1 : Int32)) S)
set_option maxHeartbeats 4000000 in
set_option maxRecDepth 100000 in
theorem g_X9_findOut_L59 {p : Program} {l : Launch} {e : Env} {s : State} {m : MethodId} {args : Array Value} {below : List Frame} {meth : Method} {c : Code} {D : va_G} {cI cZ cR : ClassId} {a : Nat → Nat} {tZ : Nat} {A : Nat → Prop} (hC : CX p s m args meth c cX9_findOut 10 (some .int) yX9_findOut.cls D (tyl cI cZ cR) tZ A) : ∀ (n : Nat) (x1 : Int32) (x3 : Int32) (S : St), GX p l e rm_X9_findOut s m args below meth c 10 D A (wM cI cZ a) (KI below D (tyl cI cZ cR) (wM cI cZ a) A args s) 59 [(0, .ref (a 0)), (1, .int x1), (3, .int x3)] [] S (m_X9_findOut_L59 n x1 x3 S) := by
  intro n
  induction n with
  | zero => intro x1 x3 S; exact gx_none
  | succ n ih =>
    intro x1 x3 S
    rw [m_X9_findOut_L59]
    refine gx_iload_n (pc' := 60) hC rfl dX9_findOut_59 rfl ?_
    refine gx_iconst (v := (5 : Int32)) (pc' := 61) hC rfl dX9_findOut_60 (by decide) ?_
    refine gx_icmp_ge (pc' := 64) hC 77 rfl dX9_findOut_61 (by decide) (fun h2 => ?_) (fun h2 => ?_)
    · refine gx_aload_n (pc' := 78) hC rfl dX9_findOut_77 rfl ?_
      refine gx_aload_n (pc' := 79) hC rfl dX9_findOut_78 rfl ?_
      refine gx_get (pc' := 82) hC 0 (atM0 cI cZ a _) rfl inw_X9 4 (by decide) lk_X9_13 rfl rfl dX9_findOut_79 ?_
      refine gx_iload_n (pc' := 83) hC rfl dX9_findOut_82 rfl ?_
      refine gx_iald (pc' := 84) hC 2 0 (atM2 cI cZ a _) rfl rfl dX9_findOut_83 ?_
      refine gx_callVI (pc' := 87) hC (c_X9_learn cI cZ cR a (S 4 x1.toNatClampNeg) _) 0 (atM0 cI cZ a _) rfl kw_X9_118 hy_X9_learn ⟨rfl, rfl⟩ (by decide) rfl rfl (Nat.le_of_ble_eq_true rfl) rfl dX9_findOut_84 (fun r3 => ?_)
      refine gx_istore_n (pc' := 88) hC [(3, .int r3.1), (0, .ref (a 0)), (1, .int x1)] rfl dX9_findOut_87 (by decide) rfl ?_
      refine gx_aload_n (pc' := 89) hC rfl dX9_findOut_88 rfl ?_
      refine gx_get (pc' := 92) hC 0 (atM0 cI cZ a _) rfl inw_X9 4 (by decide) lk_X9_13 rfl rfl dX9_findOut_89 ?_
      refine gx_iload_n (pc' := 93) hC rfl dX9_findOut_92 rfl ?_
      refine gx_iald (pc' := 94) hC 2 0 (atM2 cI cZ a _) rfl rfl dX9_findOut_93 ?_
      refine gx_istore (pc' := 96) hC [(4, .int (r3.2 4 x1.toNatClampNeg)), (3, .int r3.1), (0, .ref (a 0)), (1, .int x1)] rfl dX9_findOut_94 (by decide) rfl ?_
      exact gx_sub [(0, .ref (a 0)), (1, .int x1), (4, .int (r3.2 4 x1.toNatClampNeg))] [2, 3, 0] rfl (g_X9_findOut_L96 hC 10000 x1 (r3.2 4 x1.toNatClampNeg) r3.2)
    · refine gx_aload_n (pc' := 65) hC rfl dX9_findOut_64 rfl ?_
      refine gx_get (pc' := 68) hC 0 (atM0 cI cZ a _) rfl inw_X9 9 (by decide) lk_X9_29 rfl rfl dX9_findOut_65 ?_
      refine gx_iload_n (pc' := 69) hC rfl dX9_findOut_68 rfl ?_
      refine gx_iconst (v := (0 : Int32)) (pc' := 70) hC rfl dX9_findOut_69 (by decide) ?_
      refine gx_iast (pc' := 71) hC 7 0 (atM7 cI cZ a _) rfl (st S 9 x3.toNatClampNeg (0 : Int32)) (stM7 cI cZ a _ _ _) rfl dX9_findOut_70 ?_
      refine gx_iinc (v := (x3 + (1 : Int32))) (pc' := 74) hC [(3, .int (x3 + (1 : Int32))), (0, .ref (a 0)), (1, .int x1)] rfl dX9_findOut_71 rfl rfl (by decide) rfl ?_
      refine gx_goto hC 59 dX9_findOut_74 (by decide) ?_
      exact gx_sub [(0, .ref (a 0)), (1, .int x1), (3, .int (x3 + (1 : Int32)))] [1, 2, 0] rfl (ih x1 (x3 + (1 : Int32)) (st S 9 x3.toNatClampNeg (0 : Int32)))
set_option maxHeartbeats 4000000 in
set_option maxRecDepth 100000 in
theorem g_X9_findOut_L14 {p : Program} {l : Launch} {e : Env} {s : State} {m : MethodId} {args : Array Value} {below : List Frame} {meth : Method} {c : Code} {D : va_G} {cI cZ cR : ClassId} {a : Nat → Nat} {tZ : Nat} {A : Nat → Prop} (hC : CX p s m args meth c cX9_findOut 10 (some .int) yX9_findOut.cls D (tyl cI cZ cR) tZ A) : ∀ (n : Nat) (x1 : Int32) (x2 : Int32) (S : St), GX p l e rm_X9_findOut s m args below meth c 10 D A (wM cI cZ a) (KI below D (tyl cI cZ cR) (wM cI cZ a) A args s) 14 [(0, .ref (a 0)), (1, .int x1), (2, .int x2)] [] S (m_X9_findOut_L14 n x1 x2 S) := by
  intro n
  induction n with
  | zero => intro x1 x2 S; exact gx_none
  | succ n ih =>
    intro x1 x2 S
    rw [m_X9_findOut_L14]
    refine gx_aload_n (pc' := 15) hC rfl dX9_findOut_14 rfl ?_
    refine gx_iload_n (pc' := 16) hC rfl dX9_findOut_15 rfl ?_
    refine gx_aload_n (pc' := 17) hC rfl dX9_findOut_16 rfl ?_
    refine gx_get (pc' := 20) hC 0 (atM0 cI cZ a _) rfl inw_X9 5 (by decide) lk_X9_16 rfl rfl dX9_findOut_17 ?_
    refine gx_iload_n (pc' := 21) hC rfl dX9_findOut_20 rfl ?_
    refine gx_iald (pc' := 22) hC 3 0 (atM3 cI cZ a _) rfl rfl dX9_findOut_21 ?_
    refine gx_callVI (pc' := 25) hC (c_X9_isWhole cI cZ cR a x2 (S 5 x1.toNatClampNeg) _) 0 (atM0 cI cZ a _) rfl kw_X9_115 hy_X9_isWhole ⟨rfl, rfl⟩ (by decide) rfl rfl (Nat.le_of_ble_eq_true rfl) rfl dX9_findOut_22 (fun r1 => ?_)
    refine gx_if_eq (pc' := 28) hC 50 rfl dX9_findOut_25 (by decide) (fun h1 => ?_) (fun h1 => ?_)
    · refine gx_aload_n (pc' := 51) hC rfl dX9_findOut_50 rfl ?_
      refine gx_get (pc' := 54) hC 0 (atM0 cI cZ a _) rfl inw_X9 9 (by decide) lk_X9_29 rfl rfl dX9_findOut_51 ?_
      refine gx_iconst (v := (0 : Int32)) (pc' := 55) hC rfl dX9_findOut_54 (by decide) ?_
      refine gx_iconst (v := (1 : Int32)) (pc' := 56) hC rfl dX9_findOut_55 (by decide) ?_
      refine gx_iast (pc' := 57) hC 7 0 (atM7 cI cZ a _) rfl (st r1.2 9 (0 : Int32).toNatClampNeg (1 : Int32)) (stM7 cI cZ a _ _ _) rfl dX9_findOut_56 ?_
      refine gx_iconst (v := (1 : Int32)) (pc' := 58) hC rfl dX9_findOut_57 (by decide) ?_
      refine gx_istore_n (pc' := 59) hC [(3, .int (1 : Int32)), (0, .ref (a 0)), (1, .int x1), (2, .int x2)] rfl dX9_findOut_58 (by decide) rfl ?_
      exact gx_sub [(0, .ref (a 0)), (1, .int x1), (3, .int (1 : Int32))] [1, 2, 0] rfl (g_X9_findOut_L59 hC 10000 x1 (1 : Int32) (st r1.2 9 (0 : Int32).toNatClampNeg (1 : Int32)))
    · refine gx_iload_n (pc' := 29) hC rfl dX9_findOut_28 rfl ?_
      refine gx_aload_n (pc' := 30) hC rfl dX9_findOut_29 rfl ?_
      refine gx_get (pc' := 33) hC 0 (atM0 cI cZ a _) rfl inw_X9 1 (by decide) lk_X9_7 rfl rfl dX9_findOut_30 ?_
      refine gx_iload_n (pc' := 34) hC rfl dX9_findOut_33 rfl ?_
      refine gx_iald (pc' := 35) hC 1 0 (atM1 cI cZ a _) rfl rfl dX9_findOut_34 ?_
      refine gx_callSI (pc' := 38) hC (c_X9_lengthOf cI cZ cR a (r1.2 1 x2.toNatClampNeg) _) kw_X9_79 hy_X9_lengthOf ⟨rfl, rfl⟩ (by decide) rfl rfl (Nat.le_of_ble_eq_true rfl) rfl dX9_findOut_35 (fun r2 => ?_)
      refine gx_iadd (pc' := 39) hC rfl dX9_findOut_38 ?_
      refine gx_istore_n (pc' := 40) hC [(2, .int (x2 + r2.1)), (0, .ref (a 0)), (1, .int x1)] rfl dX9_findOut_39 (by decide) rfl ?_
      refine gx_aload_n (pc' := 41) hC rfl dX9_findOut_40 rfl ?_
      refine gx_get (pc' := 44) hC 0 (atM0 cI cZ a _) rfl inw_X9 8 (by decide) lk_X9_26 rfl rfl dX9_findOut_41 ?_
      refine gx_iload_n (pc' := 45) hC rfl dX9_findOut_44 rfl ?_
      refine gx_iconst (v := (1 : Int32)) (pc' := 46) hC rfl dX9_findOut_45 (by decide) ?_
      refine gx_zast (pc' := 47) hC 6 1 (atM6 cI cZ a _) rfl (by decide) (st r2.2 8 (x2 + r2.1).toNatClampNeg (1 : Int32)) (stM6 cI cZ a _ _ _) rfl dX9_findOut_46 ?_
      refine gx_goto hC 14 dX9_findOut_47 (by decide) ?_
      exact gx_sub [(0, .ref (a 0)), (1, .int x1), (2, .int (x2 + r2.1))] [1, 2, 0] rfl (ih x1 (x2 + r2.1) (st r2.2 8 (x2 + r2.1).toNatClampNeg (1 : Int32)))
set_option maxHeartbeats 4000000 in
set_option maxRecDepth 100000 in
theorem c_X9_findOut {l : Launch} {D : va_G} {tZ : Nat} (cI cZ cR : ClassId) (a : Nat → Nat) (x1 : Int32) (S : St) : MI l D (tyl cI cZ cR) tZ (wM cI cZ a) yX9_findOut cX9_findOut 10 (some .int) rm_X9_findOut [.ref (a 0), .int x1] S (m_X9_findOut x1 S) := by
  refine gx_metI (by decide) (Nat.le_of_ble_eq_true rfl) ?_
  intro p e s m below meth c A hC
  refine gx_sub [(0, .ref (a 0)), (1, .int x1)] [0, 1] rfl ?_
  rw [m_X9_findOut]
  refine gx_aload_n (pc' := 1) hC rfl dX9_findOut_0 rfl ?_
  refine gx_get (pc' := 4) hC 0 (atM0 cI cZ a _) rfl inw_X9 4 (by decide) lk_X9_13 rfl rfl dX9_findOut_1 ?_
  refine gx_iload_n (pc' := 5) hC rfl dX9_findOut_4 rfl ?_
  refine gx_iald (pc' := 6) hC 2 0 (atM2 cI cZ a _) rfl rfl dX9_findOut_5 ?_
  refine gx_istore_n (pc' := 7) hC [(2, .int (S 4 x1.toNatClampNeg)), (0, .ref (a 0)), (1, .int x1)] rfl dX9_findOut_6 (by decide) rfl ?_
  refine gx_aload_n (pc' := 8) hC rfl dX9_findOut_7 rfl ?_
  refine gx_get (pc' := 11) hC 0 (atM0 cI cZ a _) rfl inw_X9 8 (by decide) lk_X9_26 rfl rfl dX9_findOut_8 ?_
  refine gx_iload_n (pc' := 12) hC rfl dX9_findOut_11 rfl ?_
  refine gx_iconst (v := (1 : Int32)) (pc' := 13) hC rfl dX9_findOut_12 (by decide) ?_
  refine gx_zast (pc' := 14) hC 6 1 (atM6 cI cZ a _) rfl (by decide) (st S 8 (S 4 x1.toNatClampNeg).toNatClampNeg (1 : Int32)) (stM6 cI cZ a _ _ _) rfl dX9_findOut_13 ?_
  exact gx_sub [(0, .ref (a 0)), (1, .int x1), (2, .int (S 4 x1.toNatClampNeg))] [1, 2, 0] rfl (g_X9_findOut_L14 hC 10000 x1 (S 4 x1.toNatClampNeg) (st S 8 (S 4 x1.toNatClampNeg).toNatClampNeg (1 : Int32)))
set_option maxHeartbeats 4000000 in
set_option maxRecDepth 100000 in
theorem c_X9_put {l : Launch} {D : va_G} {tZ : Nat} (cI cZ cR : ClassId) (a : Nat → Nat) (x1 : Int32) (S : St) : MV l D (tyl cI cZ cR) tZ (wM cI cZ a) yX9_put cX9_put 2 none rm_X9_put [.ref (a 0), .int x1] S (m_X9_put x1 S) := by
  refine gx_metV (by decide) (Nat.le_of_ble_eq_true rfl) ?_
  intro p e s m below meth c A hC
  refine gx_sub [(0, .ref (a 0)), (1, .int x1)] [0, 1] rfl ?_
  rw [m_X9_put]
  refine gx_aload_n (pc' := 1) hC rfl dX9_put_0 rfl ?_
  refine gx_get (pc' := 4) hC 0 (atM0 cI cZ a _) rfl inw_X9 11 (by decide) lk_X9_35 rfl rfl dX9_put_1 ?_
  refine gx_aload_n (pc' := 5) hC rfl dX9_put_4 rfl ?_
  refine gx_get (pc' := 8) hC 0 (atM0 cI cZ a _) rfl inw_X9 27 (by decide) lk_X9_124 rfl rfl dX9_put_5 ?_
  refine gx_iload_n (pc' := 9) hC rfl dX9_put_8 rfl ?_
  refine gx_iast (pc' := 10) hC 9 0 (atM9 cI cZ a _) rfl (st S 11 (S 30 27).toNatClampNeg x1) (stM9 cI cZ a _ _ _) rfl dX9_put_9 ?_
  refine gx_aload_n (pc' := 11) hC rfl dX9_put_10 rfl ?_
  refine gx_dup (pc' := 12) hC rfl dX9_put_11 rfl ?_
  refine gx_get (pc' := 15) hC 0 (atM0 cI cZ a _) rfl inw_X9 27 (by decide) lk_X9_124 rfl rfl dX9_put_12 ?_
  refine gx_iconst (v := (1 : Int32)) (pc' := 16) hC rfl dX9_put_15 (by decide) ?_
  refine gx_iadd (pc' := 17) hC rfl dX9_put_16 ?_
  refine gx_put (pc' := 20) hC tyX9_ok nmX9 0 (atM0 cI cZ a _) rfl inw_X9 27 (by decide) lk_X9_124 rfl rfl rfl (Nat.le_of_ble_eq_true rfl) (st (st S 11 (S 30 27).toNatClampNeg x1) 30 27 (((st S 11 (S 30 27).toNatClampNeg x1) 30 27) + (1 : Int32))) (ptM0_27 cI cZ a _ _) rfl dX9_put_17 ?_
  exact gx_vret hC dX9_put_20
