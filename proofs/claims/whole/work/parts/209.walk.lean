set_option maxHeartbeats 4000000 in
set_option maxRecDepth 100000 in
theorem g_X9_step_L513 {p : Program} {l : Launch} {e : Env} {s : State} {m : MethodId} {args : Array Value} {below : List Frame} {meth : Method} {c : Code} {D : va_G} {cI cZ cR : ClassId} {a : Nat → Nat} {tZ : Nat} {A : Nat → Prop} (hC : CX p s m args meth c cX9_step 5 (some .int) yX9_step.cls D (tyl cI cZ cR) tZ A) (x4 : Int32) (S : St) : GX p l e rm_X9_step s m args below meth c 5 D A (wM cI cZ a) (KI below D (tyl cI cZ cR) (wM cI cZ a) A args s) 513 [(0, .ref (a 0)), (4, .int x4)] [] S (m_X9_step_L513 x4 S) := by
  rw [m_X9_step_L513]
  refine gx_aload_n (pc' := 514) hC rfl dX9_step_513 rfl ?_
  refine gx_iload (pc' := 516) hC rfl dX9_step_514 rfl ?_
  refine gx_put (pc' := 519) hC tyX9_ok nmX9 0 (atM0 cI cZ a _) rfl inw_X9 18 (by decide) lk_X9_67 rfl rfl rfl (Nat.le_of_ble_eq_true rfl) (st S 30 18 x4) (ptM0_18 cI cZ a _ _) rfl dX9_step_516 ?_
  refine gx_aload_n (pc' := 520) hC rfl dX9_step_519 rfl ?_
  refine gx_get (pc' := 523) hC 0 (atM0 cI cZ a _) rfl inw_X9 18 (by decide) lk_X9_67 rfl rfl dX9_step_520 ?_
  exact gx_iret hC dX9_step_523
set_option maxHeartbeats 4000000 in
set_option maxRecDepth 100000 in
theorem g_X9_step_L103 {p : Program} {l : Launch} {e : Env} {s : State} {m : MethodId} {args : Array Value} {below : List Frame} {meth : Method} {c : Code} {D : va_G} {cI cZ cR : ClassId} {a : Nat → Nat} {tZ : Nat} {A : Nat → Prop} (hC : CX p s m args meth c cX9_step 5 (some .int) yX9_step.cls D (tyl cI cZ cR) tZ A) (x1 : Int32) (x2 : Int32) (x3 : Int32) (z1 : Int32) (S : St) : GX p l e rm_X9_step s m args below meth c 5 D A (wM cI cZ a) (KI below D (tyl cI cZ cR) (wM cI cZ a) A args s) 103 [(0, .ref (a 0)), (1, .int x1), (2, .int x2), (3, .int x3)] [.int z1, .ref (a 0)] S (m_X9_step_L103 x1 x2 x3 z1 S) := by
  rw [m_X9_step_L103]
  refine gx_put (pc' := 106) hC tyX9_ok nmX9 0 (atM0 cI cZ a _) rfl inw_X9 0 (by decide) lk_X9_59 rfl rfl rfl (Nat.le_of_ble_eq_true rfl) (st S 30 0 z1) (ptM0_0 cI cZ a _ _) rfl dX9_step_103 ?_
  refine gx_aload_n (pc' := 107) hC rfl dX9_step_106 rfl ?_
  refine gx_get (pc' := 110) hC 0 (atM0 cI cZ a _) rfl inw_X9 0 (by decide) lk_X9_59 rfl rfl dX9_step_107 ?_
  refine gx_if_le (pc' := 113) hC 115 rfl dX9_step_110 (by decide) (fun h7 => ?_) (fun h7 => ?_)
  · refine gx_aload_n (pc' := 116) hC rfl dX9_step_115 rfl ?_
    refine gx_get (pc' := 119) hC 0 (atM0 cI cZ a _) rfl inw_X9 18 (by decide) lk_X9_67 rfl rfl dX9_step_116 ?_
    refine gx_iload_n (pc' := 120) hC rfl dX9_step_119 rfl ?_
    refine gx_callSI (pc' := 123) hC (c_X9_lengthOf cI cZ cR a x1 _) kw_X9_79 hy_X9_lengthOf ⟨rfl, rfl⟩ (by decide) rfl rfl (Nat.le_of_ble_eq_true rfl) rfl dX9_step_120 (fun r6 => ?_)
    refine gx_iadd (pc' := 124) hC rfl dX9_step_123 ?_
    refine gx_istore (pc' := 126) hC [(4, .int (((st S 30 0 z1) 30 18) + r6.1)), (0, .ref (a 0)), (1, .int x1), (2, .int x2), (3, .int x3)] rfl dX9_step_124 (by decide) rfl ?_
    refine gx_iload_n (pc' := 127) hC rfl dX9_step_126 rfl ?_
    refine gx_ite (fun h8 => ?_) (fun h8 => ?_)
    · refine gx_case (v := (1 : Int32)) (off := 73) hC 200 h8 dX9_step_127 (by decide) ?_
      refine gx_aload_n (pc' := 201) hC rfl dX9_step_200 rfl ?_
      refine gx_dup (pc' := 202) hC rfl dX9_step_201 rfl ?_
      refine gx_get (pc' := 205) hC 0 (atM0 cI cZ a _) rfl inw_X9 19 (by decide) lk_X9_163 rfl rfl dX9_step_202 ?_
      refine gx_iconst (v := (1 : Int32)) (pc' := 206) hC rfl dX9_step_205 (by decide) ?_
      refine gx_isub (pc' := 207) hC rfl dX9_step_206 ?_
      refine gx_put (pc' := 210) hC tyX9_ok nmX9 0 (atM0 cI cZ a _) rfl inw_X9 19 (by decide) lk_X9_163 rfl rfl rfl (Nat.le_of_ble_eq_true rfl) (st r6.2 30 19 ((r6.2 30 19) - (1 : Int32))) (ptM0_19 cI cZ a _ _) rfl dX9_step_207 ?_
      refine gx_aload_n (pc' := 211) hC rfl dX9_step_210 rfl ?_
      refine gx_get (pc' := 214) hC 0 (atM0 cI cZ a _) rfl inw_X9 22 (by decide) lk_X9_50 rfl rfl dX9_step_211 ?_
      refine gx_aload_n (pc' := 215) hC rfl dX9_step_214 rfl ?_
      refine gx_get (pc' := 218) hC 0 (atM0 cI cZ a _) rfl inw_X9 19 (by decide) lk_X9_163 rfl rfl dX9_step_215 ?_
      refine gx_aload_n (pc' := 219) hC rfl dX9_step_218 rfl ?_
      refine gx_get (pc' := 222) hC 0 (atM0 cI cZ a _) rfl inw_X9 21 (by decide) lk_X9_47 rfl rfl dX9_step_219 ?_
      refine gx_iload_n (pc' := 223) hC rfl dX9_step_222 rfl ?_
      refine gx_iald (pc' := 224) hC 13 0 (atM13 cI cZ a _) rfl rfl dX9_step_223 ?_
      refine gx_iast (pc' := 225) hC 14 0 (atM14 cI cZ a _) rfl (st (st r6.2 30 19 ((r6.2 30 19) - (1 : Int32))) 22 ((st r6.2 30 19 ((r6.2 30 19) - (1 : Int32))) 30 19).toNatClampNeg ((st r6.2 30 19 ((r6.2 30 19) - (1 : Int32))) 21 x2.toNatClampNeg)) (stM14 cI cZ a _ _ _) rfl dX9_step_224 ?_
      refine gx_goto hC 513 dX9_step_225 (by decide) ?_
      exact gx_sub [(0, .ref (a 0)), (4, .int (((st S 30 0 z1) 30 18) + r6.1))] [1, 0] rfl (g_X9_step_L513 hC (((st S 30 0 z1) 30 18) + r6.1) (st (st r6.2 30 19 ((r6.2 30 19) - (1 : Int32))) 22 ((st r6.2 30 19 ((r6.2 30 19) - (1 : Int32))) 30 19).toNatClampNeg ((st r6.2 30 19 ((r6.2 30 19) - (1 : Int32))) 21 x2.toNatClampNeg)))
    refine gx_ite (fun h9 => ?_) (fun h9 => ?_)
    · refine gx_case (v := (2 : Int32)) (off := 101) hC 228 h9 dX9_step_127 (by decide) ?_
      refine gx_aload_n (pc' := 229) hC rfl dX9_step_228 rfl ?_
      refine gx_get (pc' := 232) hC 0 (atM0 cI cZ a _) rfl inw_X9 21 (by decide) lk_X9_47 rfl rfl dX9_step_229 ?_
      refine gx_iload_n (pc' := 233) hC rfl dX9_step_232 rfl ?_
      refine gx_aload_n (pc' := 234) hC rfl dX9_step_233 rfl ?_
      refine gx_get (pc' := 237) hC 0 (atM0 cI cZ a _) rfl inw_X9 22 (by decide) lk_X9_50 rfl rfl dX9_step_234 ?_
      refine gx_aload_n (pc' := 238) hC rfl dX9_step_237 rfl ?_
      refine gx_get (pc' := 241) hC 0 (atM0 cI cZ a _) rfl inw_X9 19 (by decide) lk_X9_163 rfl rfl dX9_step_238 ?_
      refine gx_iald (pc' := 242) hC 14 0 (atM14 cI cZ a _) rfl rfl dX9_step_241 ?_
      refine gx_iast (pc' := 243) hC 13 0 (atM13 cI cZ a _) rfl (st r6.2 21 x2.toNatClampNeg (r6.2 22 (r6.2 30 19).toNatClampNeg)) (stM13 cI cZ a _ _ _) rfl dX9_step_242 ?_
      refine gx_aload_n (pc' := 244) hC rfl dX9_step_243 rfl ?_
      refine gx_dup (pc' := 245) hC rfl dX9_step_244 rfl ?_
      refine gx_get (pc' := 248) hC 0 (atM0 cI cZ a _) rfl inw_X9 19 (by decide) lk_X9_163 rfl rfl dX9_step_245 ?_
      refine gx_iconst (v := (1 : Int32)) (pc' := 249) hC rfl dX9_step_248 (by decide) ?_
      refine gx_iadd (pc' := 250) hC rfl dX9_step_249 ?_
      refine gx_put (pc' := 253) hC tyX9_ok nmX9 0 (atM0 cI cZ a _) rfl inw_X9 19 (by decide) lk_X9_163 rfl rfl rfl (Nat.le_of_ble_eq_true rfl) (st (st r6.2 21 x2.toNatClampNeg (r6.2 22 (r6.2 30 19).toNatClampNeg)) 30 19 (((st r6.2 21 x2.toNatClampNeg (r6.2 22 (r6.2 30 19).toNatClampNeg)) 30 19) + (1 : Int32))) (ptM0_19 cI cZ a _ _) rfl dX9_step_250 ?_
      refine gx_goto hC 513 dX9_step_253 (by decide) ?_
      exact gx_sub [(0, .ref (a 0)), (4, .int (((st S 30 0 z1) 30 18) + r6.1))] [1, 0] rfl (g_X9_step_L513 hC (((st S 30 0 z1) 30 18) + r6.1) (st (st r6.2 21 x2.toNatClampNeg (r6.2 22 (r6.2 30 19).toNatClampNeg)) 30 19 (((st r6.2 21 x2.toNatClampNeg (r6.2 22 (r6.2 30 19).toNatClampNeg)) 30 19) + (1 : Int32))))
    refine gx_ite (fun h10 => ?_) (fun h10 => ?_)
    · refine gx_case (v := (3 : Int32)) (off := 129) hC 256 h10 dX9_step_127 (by decide) ?_
      refine gx_aload_n (pc' := 257) hC rfl dX9_step_256 rfl ?_
      refine gx_dup (pc' := 258) hC rfl dX9_step_257 rfl ?_
      refine gx_get (pc' := 261) hC 0 (atM0 cI cZ a _) rfl inw_X9 19 (by decide) lk_X9_163 rfl rfl dX9_step_258 ?_
      refine gx_iload_n (pc' := 262) hC rfl dX9_step_261 rfl ?_
      refine gx_isub (pc' := 263) hC rfl dX9_step_262 ?_
      refine gx_put (pc' := 266) hC tyX9_ok nmX9 0 (atM0 cI cZ a _) rfl inw_X9 19 (by decide) lk_X9_163 rfl rfl rfl (Nat.le_of_ble_eq_true rfl) (st r6.2 30 19 ((r6.2 30 19) - x2)) (ptM0_19 cI cZ a _ _) rfl dX9_step_263 ?_
      refine gx_goto hC 513 dX9_step_266 (by decide) ?_
      exact gx_sub [(0, .ref (a 0)), (4, .int (((st S 30 0 z1) 30 18) + r6.1))] [1, 0] rfl (g_X9_step_L513 hC (((st S 30 0 z1) 30 18) + r6.1) (st r6.2 30 19 ((r6.2 30 19) - x2)))
    refine gx_ite (fun h11 => ?_) (fun h11 => ?_)
    · refine gx_case (v := (4 : Int32)) (off := 142) hC 269 h11 dX9_step_127 (by decide) ?_
      refine gx_aload_n (pc' := 270) hC rfl dX9_step_269 rfl ?_
      refine gx_dup (pc' := 271) hC rfl dX9_step_270 rfl ?_
      refine gx_get (pc' := 274) hC 0 (atM0 cI cZ a _) rfl inw_X9 19 (by decide) lk_X9_163 rfl rfl dX9_step_271 ?_
      refine gx_iload_n (pc' := 275) hC rfl dX9_step_274 rfl ?_
      refine gx_iadd (pc' := 276) hC rfl dX9_step_275 ?_
      refine gx_put (pc' := 279) hC tyX9_ok nmX9 0 (atM0 cI cZ a _) rfl inw_X9 19 (by decide) lk_X9_163 rfl rfl rfl (Nat.le_of_ble_eq_true rfl) (st r6.2 30 19 ((r6.2 30 19) + x2)) (ptM0_19 cI cZ a _ _) rfl dX9_step_276 ?_
      refine gx_goto hC 513 dX9_step_279 (by decide) ?_
      exact gx_sub [(0, .ref (a 0)), (4, .int (((st S 30 0 z1) 30 18) + r6.1))] [1, 0] rfl (g_X9_step_L513 hC (((st S 30 0 z1) 30 18) + r6.1) (st r6.2 30 19 ((r6.2 30 19) + x2)))
    refine gx_ite (fun h12 => ?_) (fun h12 => ?_)
    · refine gx_case (v := (5 : Int32)) (off := 155) hC 282 h12 dX9_step_127 (by decide) ?_
      refine gx_aload_n (pc' := 283) hC rfl dX9_step_282 rfl ?_
      refine gx_get (pc' := 286) hC 0 (atM0 cI cZ a _) rfl inw_X9 21 (by decide) lk_X9_47 rfl rfl dX9_step_283 ?_
      refine gx_iconst (v := (0 : Int32)) (pc' := 287) hC rfl dX9_step_286 (by decide) ?_
      refine gx_aload_n (pc' := 288) hC rfl dX9_step_287 rfl ?_
      refine gx_get (pc' := 291) hC 0 (atM0 cI cZ a _) rfl inw_X9 19 (by decide) lk_X9_163 rfl rfl dX9_step_288 ?_
      refine gx_iast (pc' := 292) hC 13 0 (atM13 cI cZ a _) rfl (st r6.2 21 (0 : Int32).toNatClampNeg (r6.2 30 19)) (stM13 cI cZ a _ _ _) rfl dX9_step_291 ?_
      refine gx_goto hC 513 dX9_step_292 (by decide) ?_
      exact gx_sub [(0, .ref (a 0)), (4, .int (((st S 30 0 z1) 30 18) + r6.1))] [1, 0] rfl (g_X9_step_L513 hC (((st S 30 0 z1) 30 18) + r6.1) (st r6.2 21 (0 : Int32).toNatClampNeg (r6.2 30 19)))
    refine gx_ite (fun h13 => ?_) (fun h13 => ?_)
    · refine gx_case (v := (6 : Int32)) (off := 168) hC 295 h13 dX9_step_127 (by decide) ?_
      refine gx_aload_n (pc' := 296) hC rfl dX9_step_295 rfl ?_
      refine gx_aload_n (pc' := 297) hC rfl dX9_step_296 rfl ?_
      refine gx_get (pc' := 300) hC 0 (atM0 cI cZ a _) rfl inw_X9 21 (by decide) lk_X9_47 rfl rfl dX9_step_297 ?_
      refine gx_iconst (v := (0 : Int32)) (pc' := 301) hC rfl dX9_step_300 (by decide) ?_
      refine gx_iald (pc' := 302) hC 13 0 (atM13 cI cZ a _) rfl rfl dX9_step_301 ?_
      refine gx_put (pc' := 305) hC tyX9_ok nmX9 0 (atM0 cI cZ a _) rfl inw_X9 19 (by decide) lk_X9_163 rfl rfl rfl (Nat.le_of_ble_eq_true rfl) (st r6.2 30 19 (r6.2 21 (0 : Int32).toNatClampNeg)) (ptM0_19 cI cZ a _ _) rfl dX9_step_302 ?_
      refine gx_goto hC 513 dX9_step_305 (by decide) ?_
      exact gx_sub [(0, .ref (a 0)), (4, .int (((st S 30 0 z1) 30 18) + r6.1))] [1, 0] rfl (g_X9_step_L513 hC (((st S 30 0 z1) 30 18) + r6.1) (st r6.2 30 19 (r6.2 21 (0 : Int32).toNatClampNeg)))
    refine gx_ite (fun h14 => ?_) (fun h14 => ?_)
    · refine gx_case (v := (7 : Int32)) (off := 181) hC 308 h14 dX9_step_127 (by decide) ?_
      refine gx_aload_n (pc' := 309) hC rfl dX9_step_308 rfl ?_
      refine gx_dup (pc' := 310) hC rfl dX9_step_309 rfl ?_
      refine gx_get (pc' := 313) hC 0 (atM0 cI cZ a _) rfl inw_X9 19 (by decide) lk_X9_163 rfl rfl dX9_step_310 ?_
      refine gx_iconst (v := (1 : Int32)) (pc' := 314) hC rfl dX9_step_313 (by decide) ?_
      refine gx_isub (pc' := 315) hC rfl dX9_step_314 ?_
      refine gx_put (pc' := 318) hC tyX9_ok nmX9 0 (atM0 cI cZ a _) rfl inw_X9 19 (by decide) lk_X9_163 rfl rfl rfl (Nat.le_of_ble_eq_true rfl) (st r6.2 30 19 ((r6.2 30 19) - (1 : Int32))) (ptM0_19 cI cZ a _ _) rfl dX9_step_315 ?_
      refine gx_aload_n (pc' := 319) hC rfl dX9_step_318 rfl ?_
      refine gx_get (pc' := 322) hC 0 (atM0 cI cZ a _) rfl inw_X9 22 (by decide) lk_X9_50 rfl rfl dX9_step_319 ?_
      refine gx_aload_n (pc' := 323) hC rfl dX9_step_322 rfl ?_
      refine gx_get (pc' := 326) hC 0 (atM0 cI cZ a _) rfl inw_X9 19 (by decide) lk_X9_163 rfl rfl dX9_step_323 ?_
      refine gx_iload (pc' := 328) hC rfl dX9_step_326 rfl ?_
      refine gx_iast (pc' := 329) hC 14 0 (atM14 cI cZ a _) rfl (st (st r6.2 30 19 ((r6.2 30 19) - (1 : Int32))) 22 ((st r6.2 30 19 ((r6.2 30 19) - (1 : Int32))) 30 19).toNatClampNeg (((st S 30 0 z1) 30 18) + r6.1)) (stM14 cI cZ a _ _ _) rfl dX9_step_328 ?_
      refine gx_aload_n (pc' := 330) hC rfl dX9_step_329 rfl ?_
      refine gx_get (pc' := 333) hC 0 (atM0 cI cZ a _) rfl inw_X9 24 (by decide) lk_X9_53 rfl rfl dX9_step_330 ?_
      refine gx_aload_n (pc' := 334) hC rfl dX9_step_333 rfl ?_
      refine gx_get (pc' := 337) hC 0 (atM0 cI cZ a _) rfl inw_X9 23 (by decide) lk_X9_166 rfl rfl dX9_step_334 ?_
      refine gx_iload (pc' := 339) hC rfl dX9_step_337 rfl ?_
      refine gx_iast (pc' := 340) hC 15 0 (atM15 cI cZ a _) rfl (st (st (st r6.2 30 19 ((r6.2 30 19) - (1 : Int32))) 22 ((st r6.2 30 19 ((r6.2 30 19) - (1 : Int32))) 30 19).toNatClampNeg (((st S 30 0 z1) 30 18) + r6.1)) 24 ((st (st r6.2 30 19 ((r6.2 30 19) - (1 : Int32))) 22 ((st r6.2 30 19 ((r6.2 30 19) - (1 : Int32))) 30 19).toNatClampNeg (((st S 30 0 z1) 30 18) + r6.1)) 30 23).toNatClampNeg (((st S 30 0 z1) 30 18) + r6.1)) (stM15 cI cZ a _ _ _) rfl dX9_step_339 ?_
      refine gx_aload_n (pc' := 341) hC rfl dX9_step_340 rfl ?_
      refine gx_dup (pc' := 342) hC rfl dX9_step_341 rfl ?_
      refine gx_get (pc' := 345) hC 0 (atM0 cI cZ a _) rfl inw_X9 23 (by decide) lk_X9_166 rfl rfl dX9_step_342 ?_
      refine gx_iconst (v := (1 : Int32)) (pc' := 346) hC rfl dX9_step_345 (by decide) ?_
      refine gx_iadd (pc' := 347) hC rfl dX9_step_346 ?_
      refine gx_put (pc' := 350) hC tyX9_ok nmX9 0 (atM0 cI cZ a _) rfl inw_X9 23 (by decide) lk_X9_166 rfl rfl rfl (Nat.le_of_ble_eq_true rfl) (st (st (st (st r6.2 30 19 ((r6.2 30 19) - (1 : Int32))) 22 ((st r6.2 30 19 ((r6.2 30 19) - (1 : Int32))) 30 19).toNatClampNeg (((st S 30 0 z1) 30 18) + r6.1)) 24 ((st (st r6.2 30 19 ((r6.2 30 19) - (1 : Int32))) 22 ((st r6.2 30 19 ((r6.2 30 19) - (1 : Int32))) 30 19).toNatClampNeg (((st S 30 0 z1) 30 18) + r6.1)) 30 23).toNatClampNeg (((st S 30 0 z1) 30 18) + r6.1)) 30 23 (((st (st (st r6.2 30 19 ((r6.2 30 19) - (1 : Int32))) 22 ((st r6.2 30 19 ((r6.2 30 19) - (1 : Int32))) 30 19).toNatClampNeg (((st S 30 0 z1) 30 18) + r6.1)) 24 ((st (st r6.2 30 19 ((r6.2 30 19) - (1 : Int32))) 22 ((st r6.2 30 19 ((r6.2 30 19) - (1 : Int32))) 30 19).toNatClampNeg (((st S 30 0 z1) 30 18) + r6.1)) 30 23).toNatClampNeg (((st S 30 0 z1) 30 18) + r6.1)) 30 23) + (1 : Int32))) (ptM0_23 cI cZ a _ _) rfl dX9_step_347 ?_
      refine gx_iload_n (pc' := 351) hC rfl dX9_step_350 rfl ?_
      refine gx_istore (pc' := 353) hC [(4, .int x2), (0, .ref (a 0)), (1, .int x1), (2, .int x2), (3, .int x3)] rfl dX9_step_351 (by decide) rfl ?_
      refine gx_goto hC 513 dX9_step_353 (by decide) ?_
      exact gx_sub [(0, .ref (a 0)), (4, .int x2)] [1, 0] rfl (g_X9_step_L513 hC x2 (st (st (st (st r6.2 30 19 ((r6.2 30 19) - (1 : Int32))) 22 ((st r6.2 30 19 ((r6.2 30 19) - (1 : Int32))) 30 19).toNatClampNeg (((st S 30 0 z1) 30 18) + r6.1)) 24 ((st (st r6.2 30 19 ((r6.2 30 19) - (1 : Int32))) 22 ((st r6.2 30 19 ((r6.2 30 19) - (1 : Int32))) 30 19).toNatClampNeg (((st S 30 0 z1) 30 18) + r6.1)) 30 23).toNatClampNeg (((st S 30 0 z1) 30 18) + r6.1)) 30 23 (((st (st (st r6.2 30 19 ((r6.2 30 19) - (1 : Int32))) 22 ((st r6.2 30 19 ((r6.2 30 19) - (1 : Int32))) 30 19).toNatClampNeg (((st S 30 0 z1) 30 18) + r6.1)) 24 ((st (st r6.2 30 19 ((r6.2 30 19) - (1 : Int32))) 22 ((st r6.2 30 19 ((r6.2 30 19) - (1 : Int32))) 30 19).toNatClampNeg (((st S 30 0 z1) 30 18) + r6.1)) 30 23).toNatClampNeg (((st S 30 0 z1) 30 18) + r6.1)) 30 23) + (1 : Int32))))
    refine gx_ite (fun h15 => ?_) (fun h15 => ?_)
    · refine gx_case (v := (8 : Int32)) (off := 229) hC 356 h15 dX9_step_127 (by decide) ?_
      refine gx_aload_n (pc' := 357) hC rfl dX9_step_356 rfl ?_
      refine gx_get (pc' := 360) hC 0 (atM0 cI cZ a _) rfl inw_X9 22 (by decide) lk_X9_50 rfl rfl dX9_step_357 ?_
      refine gx_aload_n (pc' := 361) hC rfl dX9_step_360 rfl ?_
      refine gx_get (pc' := 364) hC 0 (atM0 cI cZ a _) rfl inw_X9 19 (by decide) lk_X9_163 rfl rfl dX9_step_361 ?_
      refine gx_iald (pc' := 365) hC 14 0 (atM14 cI cZ a _) rfl rfl dX9_step_364 ?_
      refine gx_istore (pc' := 367) hC [(4, .int (r6.2 22 (r6.2 30 19).toNatClampNeg)), (0, .ref (a 0)), (1, .int x1), (2, .int x2), (3, .int x3)] rfl dX9_step_365 (by decide) rfl ?_
      refine gx_aload_n (pc' := 368) hC rfl dX9_step_367 rfl ?_
      refine gx_dup (pc' := 369) hC rfl dX9_step_368 rfl ?_
      refine gx_get (pc' := 372) hC 0 (atM0 cI cZ a _) rfl inw_X9 19 (by decide) lk_X9_163 rfl rfl dX9_step_369 ?_
      refine gx_iconst (v := (1 : Int32)) (pc' := 373) hC rfl dX9_step_372 (by decide) ?_
      refine gx_iadd (pc' := 374) hC rfl dX9_step_373 ?_
      refine gx_put (pc' := 377) hC tyX9_ok nmX9 0 (atM0 cI cZ a _) rfl inw_X9 19 (by decide) lk_X9_163 rfl rfl rfl (Nat.le_of_ble_eq_true rfl) (st r6.2 30 19 ((r6.2 30 19) + (1 : Int32))) (ptM0_19 cI cZ a _ _) rfl dX9_step_374 ?_
      refine gx_aload_n (pc' := 378) hC rfl dX9_step_377 rfl ?_
      refine gx_dup (pc' := 379) hC rfl dX9_step_378 rfl ?_
      refine gx_get (pc' := 382) hC 0 (atM0 cI cZ a _) rfl inw_X9 23 (by decide) lk_X9_166 rfl rfl dX9_step_379 ?_
      refine gx_aload_n (pc' := 383) hC rfl dX9_step_382 rfl ?_
      refine gx_get (pc' := 386) hC 0 (atM0 cI cZ a _) rfl inw_X9 23 (by decide) lk_X9_166 rfl rfl dX9_step_383 ?_
      refine gx_if_le (pc' := 389) hC 393 rfl dX9_step_386 (by decide) (fun h16 => ?_) (fun h16 => ?_)
      · refine gx_iconst (v := (0 : Int32)) (pc' := 394) hC rfl dX9_step_393 (by decide) ?_
        refine gx_isub (pc' := 395) hC rfl dX9_step_394 ?_
        refine gx_put (pc' := 398) hC tyX9_ok nmX9 0 (atM0 cI cZ a _) rfl inw_X9 23 (by decide) lk_X9_166 rfl rfl rfl (Nat.le_of_ble_eq_true rfl) (st (st r6.2 30 19 ((r6.2 30 19) + (1 : Int32))) 30 23 (((st r6.2 30 19 ((r6.2 30 19) + (1 : Int32))) 30 23) - (0 : Int32))) (ptM0_23 cI cZ a _ _) rfl dX9_step_395 ?_
        refine gx_aload_n (pc' := 399) hC rfl dX9_step_398 rfl ?_
        refine gx_iload (pc' := 401) hC rfl dX9_step_399 rfl ?_
        refine gx_sipush (v := (255 : Int32)) (pc' := 404) hC rfl dX9_step_401 (by decide) ?_
        refine gx_icmp_eq (pc' := 407) hC 411 rfl dX9_step_404 (by decide) (fun h17 => ?_) (fun h17 => ?_)
        · refine gx_iconst (v := (0 : Int32)) (pc' := 412) hC rfl dX9_step_411 (by decide) ?_
          refine gx_put (pc' := 415) hC tyX9_ok nmX9 0 (atM0 cI cZ a _) rfl inw_X9 17 (by decide) lk_X9_63 rfl rfl rfl (Nat.le_of_ble_eq_true rfl) (st (st (st r6.2 30 19 ((r6.2 30 19) + (1 : Int32))) 30 23 (((st r6.2 30 19 ((r6.2 30 19) + (1 : Int32))) 30 23) - (0 : Int32))) 30 17 (0 : Int32)) (ptM0_17 cI cZ a _ _) rfl dX9_step_412 ?_
          refine gx_goto hC 513 dX9_step_415 (by decide) ?_
          exact gx_sub [(0, .ref (a 0)), (4, .int (r6.2 22 (r6.2 30 19).toNatClampNeg))] [1, 0] rfl (g_X9_step_L513 hC (r6.2 22 (r6.2 30 19).toNatClampNeg) (st (st (st r6.2 30 19 ((r6.2 30 19) + (1 : Int32))) 30 23 (((st r6.2 30 19 ((r6.2 30 19) + (1 : Int32))) 30 23) - (0 : Int32))) 30 17 (0 : Int32)))
        · refine gx_iconst (v := (1 : Int32)) (pc' := 408) hC rfl dX9_step_407 (by decide) ?_
          refine gx_goto hC 412 dX9_step_408 (by decide) ?_
          refine gx_put (pc' := 415) hC tyX9_ok nmX9 0 (atM0 cI cZ a _) rfl inw_X9 17 (by decide) lk_X9_63 rfl rfl rfl (Nat.le_of_ble_eq_true rfl) (st (st (st r6.2 30 19 ((r6.2 30 19) + (1 : Int32))) 30 23 (((st r6.2 30 19 ((r6.2 30 19) + (1 : Int32))) 30 23) - (0 : Int32))) 30 17 (1 : Int32)) (ptM0_17 cI cZ a _ _) rfl dX9_step_412 ?_
          refine gx_goto hC 513 dX9_step_415 (by decide) ?_
          exact gx_sub [(0, .ref (a 0)), (4, .int (r6.2 22 (r6.2 30 19).toNatClampNeg))] [1, 0] rfl (g_X9_step_L513 hC (r6.2 22 (r6.2 30 19).toNatClampNeg) (st (st (st r6.2 30 19 ((r6.2 30 19) + (1 : Int32))) 30 23 (((st r6.2 30 19 ((r6.2 30 19) + (1 : Int32))) 30 23) - (0 : Int32))) 30 17 (1 : Int32)))
      · refine gx_iconst (v := (1 : Int32)) (pc' := 390) hC rfl dX9_step_389 (by decide) ?_
        refine gx_goto hC 394 dX9_step_390 (by decide) ?_
        refine gx_isub (pc' := 395) hC rfl dX9_step_394 ?_
        refine gx_put (pc' := 398) hC tyX9_ok nmX9 0 (atM0 cI cZ a _) rfl inw_X9 23 (by decide) lk_X9_166 rfl rfl rfl (Nat.le_of_ble_eq_true rfl) (st (st r6.2 30 19 ((r6.2 30 19) + (1 : Int32))) 30 23 (((st r6.2 30 19 ((r6.2 30 19) + (1 : Int32))) 30 23) - (1 : Int32))) (ptM0_23 cI cZ a _ _) rfl dX9_step_395 ?_
        refine gx_aload_n (pc' := 399) hC rfl dX9_step_398 rfl ?_
        refine gx_iload (pc' := 401) hC rfl dX9_step_399 rfl ?_
        refine gx_sipush (v := (255 : Int32)) (pc' := 404) hC rfl dX9_step_401 (by decide) ?_
        refine gx_icmp_eq (pc' := 407) hC 411 rfl dX9_step_404 (by decide) (fun h18 => ?_) (fun h18 => ?_)
        · refine gx_iconst (v := (0 : Int32)) (pc' := 412) hC rfl dX9_step_411 (by decide) ?_
          refine gx_put (pc' := 415) hC tyX9_ok nmX9 0 (atM0 cI cZ a _) rfl inw_X9 17 (by decide) lk_X9_63 rfl rfl rfl (Nat.le_of_ble_eq_true rfl) (st (st (st r6.2 30 19 ((r6.2 30 19) + (1 : Int32))) 30 23 (((st r6.2 30 19 ((r6.2 30 19) + (1 : Int32))) 30 23) - (1 : Int32))) 30 17 (0 : Int32)) (ptM0_17 cI cZ a _ _) rfl dX9_step_412 ?_
          refine gx_goto hC 513 dX9_step_415 (by decide) ?_
          exact gx_sub [(0, .ref (a 0)), (4, .int (r6.2 22 (r6.2 30 19).toNatClampNeg))] [1, 0] rfl (g_X9_step_L513 hC (r6.2 22 (r6.2 30 19).toNatClampNeg) (st (st (st r6.2 30 19 ((r6.2 30 19) + (1 : Int32))) 30 23 (((st r6.2 30 19 ((r6.2 30 19) + (1 : Int32))) 30 23) - (1 : Int32))) 30 17 (0 : Int32)))
        · refine gx_iconst (v := (1 : Int32)) (pc' := 408) hC rfl dX9_step_407 (by decide) ?_
          refine gx_goto hC 412 dX9_step_408 (by decide) ?_
          refine gx_put (pc' := 415) hC tyX9_ok nmX9 0 (atM0 cI cZ a _) rfl inw_X9 17 (by decide) lk_X9_63 rfl rfl rfl (Nat.le_of_ble_eq_true rfl) (st (st (st r6.2 30 19 ((r6.2 30 19) + (1 : Int32))) 30 23 (((st r6.2 30 19 ((r6.2 30 19) + (1 : Int32))) 30 23) - (1 : Int32))) 30 17 (1 : Int32)) (ptM0_17 cI cZ a _ _) rfl dX9_step_412 ?_
          refine gx_goto hC 513 dX9_step_415 (by decide) ?_
          exact gx_sub [(0, .ref (a 0)), (4, .int (r6.2 22 (r6.2 30 19).toNatClampNeg))] [1, 0] rfl (g_X9_step_L513 hC (r6.2 22 (r6.2 30 19).toNatClampNeg) (st (st (st r6.2 30 19 ((r6.2 30 19) + (1 : Int32))) 30 23 (((st r6.2 30 19 ((r6.2 30 19) + (1 : Int32))) 30 23) - (1 : Int32))) 30 17 (1 : Int32)))
    refine gx_ite (fun h19 => ?_) (fun h19 => ?_)
    · refine gx_case (v := (9 : Int32)) (off := 291) hC 418 h19 dX9_step_127 (by decide) ?_
      refine gx_iload_n (pc' := 419) hC rfl dX9_step_418 rfl ?_
      refine gx_istore (pc' := 421) hC [(4, .int x2), (0, .ref (a 0)), (1, .int x1), (2, .int x2), (3, .int x3)] rfl dX9_step_419 (by decide) rfl ?_
      refine gx_goto hC 513 dX9_step_421 (by decide) ?_
      exact gx_sub [(0, .ref (a 0)), (4, .int x2)] [1, 0] rfl (g_X9_step_L513 hC x2 r6.2)
    refine gx_ite (fun h20 => ?_) (fun h20 => ?_)
    · refine gx_case (v := (10 : Int32)) (off := 297) hC 424 h20 dX9_step_127 (by decide) ?_
      refine gx_aload_n (pc' := 425) hC rfl dX9_step_424 rfl ?_
      refine gx_get (pc' := 428) hC 0 (atM0 cI cZ a _) rfl inw_X9 20 (by decide) lk_X9_160 rfl rfl dX9_step_425 ?_
      refine gx_if_eq (pc' := 431) hC 435 rfl dX9_step_428 (by decide) (fun h21 => ?_) (fun h21 => ?_)
      · refine gx_iload (pc' := 437) hC rfl dX9_step_435 rfl ?_
        refine gx_istore (pc' := 439) hC [(4, .int (((st S 30 0 z1) 30 18) + r6.1)), (0, .ref (a 0)), (1, .int x1), (2, .int x2), (3, .int x3)] rfl dX9_step_437 (by decide) rfl ?_
        refine gx_goto hC 513 dX9_step_439 (by decide) ?_
        exact gx_sub [(0, .ref (a 0)), (4, .int (((st S 30 0 z1) 30 18) + r6.1))] [1, 0] rfl (g_X9_step_L513 hC (((st S 30 0 z1) 30 18) + r6.1) r6.2)
      · refine gx_iload_n (pc' := 432) hC rfl dX9_step_431 rfl ?_
        refine gx_goto hC 437 dX9_step_432 (by decide) ?_
        refine gx_istore (pc' := 439) hC [(4, .int x2), (0, .ref (a 0)), (1, .int x1), (2, .int x2), (3, .int x3)] rfl dX9_step_437 (by decide) rfl ?_
        refine gx_goto hC 513 dX9_step_439 (by decide) ?_
        exact gx_sub [(0, .ref (a 0)), (4, .int x2)] [1, 0] rfl (g_X9_step_L513 hC x2 r6.2)
    refine gx_ite (fun h22 => ?_) (fun h22 => ?_)
    · refine gx_case (v := (11 : Int32)) (off := 315) hC 442 h22 dX9_step_127 (by decide) ?_
      refine gx_aload_n (pc' := 443) hC rfl dX9_step_442 rfl ?_
      refine gx_get (pc' := 446) hC 0 (atM0 cI cZ a _) rfl inw_X9 21 (by decide) lk_X9_47 rfl rfl dX9_step_443 ?_
      refine gx_iload_n (pc' := 447) hC rfl dX9_step_446 rfl ?_
      refine gx_iload_n (pc' := 448) hC rfl dX9_step_447 rfl ?_
      refine gx_iast (pc' := 449) hC 13 0 (atM13 cI cZ a _) rfl (st r6.2 21 x2.toNatClampNeg x3) (stM13 cI cZ a _ _ _) rfl dX9_step_448 ?_
      refine gx_goto hC 513 dX9_step_449 (by decide) ?_
      exact gx_sub [(0, .ref (a 0)), (4, .int (((st S 30 0 z1) 30 18) + r6.1))] [1, 0] rfl (g_X9_step_L513 hC (((st S 30 0 z1) 30 18) + r6.1) (st r6.2 21 x2.toNatClampNeg x3))
    refine gx_ite (fun h23 => ?_) (fun h23 => ?_)
    · refine gx_case (v := (12 : Int32)) (off := 325) hC 452 h23 dX9_step_127 (by decide) ?_
      refine gx_aload_n (pc' := 453) hC rfl dX9_step_452 rfl ?_
      refine gx_iload_n (pc' := 454) hC rfl dX9_step_453 rfl ?_
      refine gx_put (pc' := 457) hC tyX9_ok nmX9 0 (atM0 cI cZ a _) rfl inw_X9 20 (by decide) lk_X9_160 rfl rfl rfl (Nat.le_of_ble_eq_true rfl) (st r6.2 30 20 x2) (ptM0_20 cI cZ a _ _) rfl dX9_step_454 ?_
      refine gx_goto hC 513 dX9_step_457 (by decide) ?_
      exact gx_sub [(0, .ref (a 0)), (4, .int (((st S 30 0 z1) 30 18) + r6.1))] [1, 0] rfl (g_X9_step_L513 hC (((st S 30 0 z1) 30 18) + r6.1) (st r6.2 30 20 x2))
    refine gx_ite (fun h24 => ?_) (fun h24 => ?_)
    · refine gx_case (v := (13 : Int32)) (off := 333) hC 460 h24 dX9_step_127 (by decide) ?_
      refine gx_aload_n (pc' := 461) hC rfl dX9_step_460 rfl ?_
      refine gx_dup (pc' := 462) hC rfl dX9_step_461 rfl ?_
      refine gx_get (pc' := 465) hC 0 (atM0 cI cZ a _) rfl inw_X9 20 (by decide) lk_X9_160 rfl rfl dX9_step_462 ?_
      refine gx_iconst (v := (1 : Int32)) (pc' := 466) hC rfl dX9_step_465 (by decide) ?_
      refine gx_isub (pc' := 467) hC rfl dX9_step_466 ?_
      refine gx_put (pc' := 470) hC tyX9_ok nmX9 0 (atM0 cI cZ a _) rfl inw_X9 20 (by decide) lk_X9_160 rfl rfl rfl (Nat.le_of_ble_eq_true rfl) (st r6.2 30 20 ((r6.2 30 20) - (1 : Int32))) (ptM0_20 cI cZ a _ _) rfl dX9_step_467 ?_
      refine gx_goto hC 513 dX9_step_470 (by decide) ?_
      exact gx_sub [(0, .ref (a 0)), (4, .int (((st S 30 0 z1) 30 18) + r6.1))] [1, 0] rfl (g_X9_step_L513 hC (((st S 30 0 z1) 30 18) + r6.1) (st r6.2 30 20 ((r6.2 30 20) - (1 : Int32))))
    refine gx_ite (fun h25 => ?_) (fun h25 => ?_)
    · refine gx_case (v := (14 : Int32)) (off := 346) hC 473 h25 dX9_step_127 (by decide) ?_
      refine gx_aload_n (pc' := 474) hC rfl dX9_step_473 rfl ?_
      refine gx_get (pc' := 477) hC 0 (atM0 cI cZ a _) rfl inw_X9 22 (by decide) lk_X9_50 rfl rfl dX9_step_474 ?_
      refine gx_aload_n (pc' := 478) hC rfl dX9_step_477 rfl ?_
      refine gx_get (pc' := 481) hC 0 (atM0 cI cZ a _) rfl inw_X9 19 (by decide) lk_X9_163 rfl rfl dX9_step_478 ?_
      refine gx_iload_n (pc' := 482) hC rfl dX9_step_481 rfl ?_
      refine gx_iadd (pc' := 483) hC rfl dX9_step_482 ?_
      refine gx_aload_n (pc' := 484) hC rfl dX9_step_483 rfl ?_
      refine gx_get (pc' := 487) hC 0 (atM0 cI cZ a _) rfl inw_X9 21 (by decide) lk_X9_47 rfl rfl dX9_step_484 ?_
      refine gx_iload_n (pc' := 488) hC rfl dX9_step_487 rfl ?_
      refine gx_iald (pc' := 489) hC 13 0 (atM13 cI cZ a _) rfl rfl dX9_step_488 ?_
      refine gx_iast (pc' := 490) hC 14 0 (atM14 cI cZ a _) rfl (st r6.2 22 ((r6.2 30 19) + x3).toNatClampNeg (r6.2 21 x2.toNatClampNeg)) (stM14 cI cZ a _ _ _) rfl dX9_step_489 ?_
      refine gx_goto hC 513 dX9_step_490 (by decide) ?_
      exact gx_sub [(0, .ref (a 0)), (4, .int (((st S 30 0 z1) 30 18) + r6.1))] [1, 0] rfl (g_X9_step_L513 hC (((st S 30 0 z1) 30 18) + r6.1) (st r6.2 22 ((r6.2 30 19) + x3).toNatClampNeg (r6.2 21 x2.toNatClampNeg)))
    refine gx_ite (fun h26 => ?_) (fun h26 => ?_)
    · refine gx_case (v := (15 : Int32)) (off := 366) hC 493 h26 dX9_step_127 (by decide) ?_
      refine gx_aload_n (pc' := 494) hC rfl dX9_step_493 rfl ?_
      refine gx_get (pc' := 497) hC 0 (atM0 cI cZ a _) rfl inw_X9 21 (by decide) lk_X9_47 rfl rfl dX9_step_494 ?_
      refine gx_iload_n (pc' := 498) hC rfl dX9_step_497 rfl ?_
      refine gx_aload_n (pc' := 499) hC rfl dX9_step_498 rfl ?_
      refine gx_get (pc' := 502) hC 0 (atM0 cI cZ a _) rfl inw_X9 22 (by decide) lk_X9_50 rfl rfl dX9_step_499 ?_
      refine gx_aload_n (pc' := 503) hC rfl dX9_step_502 rfl ?_
      refine gx_get (pc' := 506) hC 0 (atM0 cI cZ a _) rfl inw_X9 19 (by decide) lk_X9_163 rfl rfl dX9_step_503 ?_
      refine gx_iload_n (pc' := 507) hC rfl dX9_step_506 rfl ?_
      refine gx_iadd (pc' := 508) hC rfl dX9_step_507 ?_
      refine gx_iald (pc' := 509) hC 14 0 (atM14 cI cZ a _) rfl rfl dX9_step_508 ?_
      refine gx_iast (pc' := 510) hC 13 0 (atM13 cI cZ a _) rfl (st r6.2 21 x2.toNatClampNeg (r6.2 22 ((r6.2 30 19) + x3).toNatClampNeg)) (stM13 cI cZ a _ _ _) rfl dX9_step_509 ?_
      refine gx_goto hC 513 dX9_step_510 (by decide) ?_
      exact gx_sub [(0, .ref (a 0)), (4, .int (((st S 30 0 z1) 30 18) + r6.1))] [1, 0] rfl (g_X9_step_L513 hC (((st S 30 0 z1) 30 18) + r6.1) (st r6.2 21 x2.toNatClampNeg (r6.2 22 ((r6.2 30 19) + x3).toNatClampNeg)))
    refine gx_dflt hC 513 dX9_step_127 (by have := lv_neT h8 (show ((1 : Int32)).toInt = 1 by decide); have := lv_neT h9 (show ((2 : Int32)).toInt = 2 by decide); have := lv_neT h10 (show ((3 : Int32)).toInt = 3 by decide); have := lv_neT h11 (show ((4 : Int32)).toInt = 4 by decide); have := lv_neT h12 (show ((5 : Int32)).toInt = 5 by decide); have := lv_neT h13 (show ((6 : Int32)).toInt = 6 by decide); have := lv_neT h14 (show ((7 : Int32)).toInt = 7 by decide); have := lv_neT h15 (show ((8 : Int32)).toInt = 8 by decide); have := lv_neT h19 (show ((9 : Int32)).toInt = 9 by decide); have := lv_neT h20 (show ((10 : Int32)).toInt = 10 by decide); have := lv_neT h22 (show ((11 : Int32)).toInt = 11 by decide); have := lv_neT h23 (show ((12 : Int32)).toInt = 12 by decide); have := lv_neT h24 (show ((13 : Int32)).toInt = 13 by decide); have := lv_neT h25 (show ((14 : Int32)).toInt = 14 by decide); have := lv_neT h26 (show ((15 : Int32)).toInt = 15 by decide); omega) (by decide) ?_
    exact gx_sub [(0, .ref (a 0)), (4, .int (((st S 30 0 z1) 30 18) + r6.1))] [1, 0] rfl (g_X9_step_L513 hC (((st S 30 0 z1) 30 18) + r6.1) r6.2)
  · refine gx_iconst (v := (0 : Int32)) (pc' := 114) hC rfl dX9_step_113 (by decide) ?_
    exact gx_iret hC dX9_step_114
set_option maxHeartbeats 4000000 in
set_option maxRecDepth 100000 in
theorem g_X9_step_L62 {p : Program} {l : Launch} {e : Env} {s : State} {m : MethodId} {args : Array Value} {below : List Frame} {meth : Method} {c : Code} {D : va_G} {cI cZ cR : ClassId} {a : Nat → Nat} {tZ : Nat} {A : Nat → Prop} (hC : CX p s m args meth c cX9_step 5 (some .int) yX9_step.cls D (tyl cI cZ cR) tZ A) (x1 : Int32) (z0 : Int32) (S : St) : GX p l e rm_X9_step s m args below meth c 5 D A (wM cI cZ a) (KI below D (tyl cI cZ cR) (wM cI cZ a) A args s) 62 [(0, .ref (a 0)), (1, .int x1)] [.int z0] S (m_X9_step_L62 x1 z0 S) := by
  rw [m_X9_step_L62]
  refine gx_istore_n (pc' := 63) hC [(2, .int z0), (0, .ref (a 0)), (1, .int x1)] rfl dX9_step_62 (by decide) rfl ?_
  refine gx_iload_n (pc' := 64) hC rfl dX9_step_63 rfl ?_
  refine gx_callSI (pc' := 67) hC (c_X9_lengthOf cI cZ cR a x1 _) kw_X9_79 hy_X9_lengthOf ⟨rfl, rfl⟩ (by decide) rfl rfl (Nat.le_of_ble_eq_true rfl) rfl dX9_step_64 (fun r3 => ?_)
  refine gx_iconst (v := (2 : Int32)) (pc' := 68) hC rfl dX9_step_67 (by decide) ?_
  refine gx_icmp_le (pc' := 71) hC 85 rfl dX9_step_68 (by decide) (fun h4 => ?_) (fun h4 => ?_)
  · refine gx_iconst (v := (0 : Int32)) (pc' := 86) hC rfl dX9_step_85 (by decide) ?_
    refine gx_istore_n (pc' := 87) hC [(3, .int (0 : Int32)), (2, .int z0), (0, .ref (a 0)), (1, .int x1)] rfl dX9_step_86 (by decide) rfl ?_
    refine gx_aload_n (pc' := 88) hC rfl dX9_step_87 rfl ?_
    refine gx_aload_n (pc' := 89) hC rfl dX9_step_88 rfl ?_
    refine gx_iload_n (pc' := 90) hC rfl dX9_step_89 rfl ?_
    refine gx_iload_n (pc' := 91) hC rfl dX9_step_90 rfl ?_
    refine gx_iload_n (pc' := 92) hC rfl dX9_step_91 rfl ?_
    refine gx_callVI (pc' := 95) hC (c_X9_fails cI cZ cR a x1 z0 (0 : Int32) _) 0 (atM0 cI cZ a _) rfl kw_X9_175 hy_X9_fails ⟨rfl, rfl⟩ (by decide) rfl rfl (Nat.le_of_ble_eq_true rfl) rfl dX9_step_92 (fun r4 => ?_)
    refine gx_if_eq (pc' := 98) hC 102 rfl dX9_step_95 (by decide) (fun h5 => ?_) (fun h5 => ?_)
    · refine gx_iconst (v := (0 : Int32)) (pc' := 103) hC rfl dX9_step_102 (by decide) ?_
      exact gx_sub [(0, .ref (a 0)), (1, .int x1), (2, .int z0), (3, .int (0 : Int32))] [2, 3, 1, 0] rfl (g_X9_step_L103 hC x1 z0 (0 : Int32) (0 : Int32) r4.2)
    · refine gx_iconst (v := (2 : Int32)) (pc' := 99) hC rfl dX9_step_98 (by decide) ?_
      refine gx_goto hC 103 dX9_step_99 (by decide) ?_
      exact gx_sub [(0, .ref (a 0)), (1, .int x1), (2, .int z0), (3, .int (0 : Int32))] [2, 3, 1, 0] rfl (g_X9_step_L103 hC x1 z0 (0 : Int32) (2 : Int32) r4.2)
  · refine gx_aload_n (pc' := 72) hC rfl dX9_step_71 rfl ?_
    refine gx_get (pc' := 75) hC 0 (atM0 cI cZ a _) rfl inw_X9 1 (by decide) lk_X9_7 rfl rfl dX9_step_72 ?_
    refine gx_aload_n (pc' := 76) hC rfl dX9_step_75 rfl ?_
    refine gx_get (pc' := 79) hC 0 (atM0 cI cZ a _) rfl inw_X9 18 (by decide) lk_X9_67 rfl rfl dX9_step_76 ?_
    refine gx_iconst (v := (2 : Int32)) (pc' := 80) hC rfl dX9_step_79 (by decide) ?_
    refine gx_iadd (pc' := 81) hC rfl dX9_step_80 ?_
    refine gx_iald (pc' := 82) hC 1 0 (atM1 cI cZ a _) rfl rfl dX9_step_81 ?_
    refine gx_goto hC 86 dX9_step_82 (by decide) ?_
    refine gx_istore_n (pc' := 87) hC [(3, .int (r3.2 1 ((r3.2 30 18) + (2 : Int32)).toNatClampNeg)), (2, .int z0), (0, .ref (a 0)), (1, .int x1)] rfl dX9_step_86 (by decide) rfl ?_
    refine gx_aload_n (pc' := 88) hC rfl dX9_step_87 rfl ?_
    refine gx_aload_n (pc' := 89) hC rfl dX9_step_88 rfl ?_
    refine gx_iload_n (pc' := 90) hC rfl dX9_step_89 rfl ?_
    refine gx_iload_n (pc' := 91) hC rfl dX9_step_90 rfl ?_
    refine gx_iload_n (pc' := 92) hC rfl dX9_step_91 rfl ?_
    refine gx_callVI (pc' := 95) hC (c_X9_fails cI cZ cR a x1 z0 (r3.2 1 ((r3.2 30 18) + (2 : Int32)).toNatClampNeg) _) 0 (atM0 cI cZ a _) rfl kw_X9_175 hy_X9_fails ⟨rfl, rfl⟩ (by decide) rfl rfl (Nat.le_of_ble_eq_true rfl) rfl dX9_step_92 (fun r5 => ?_)
    refine gx_if_eq (pc' := 98) hC 102 rfl dX9_step_95 (by decide) (fun h6 => ?_) (fun h6 => ?_)
    · refine gx_iconst (v := (0 : Int32)) (pc' := 103) hC rfl dX9_step_102 (by decide) ?_
      exact gx_sub [(0, .ref (a 0)), (1, .int x1), (2, .int z0), (3, .int (r3.2 1 ((r3.2 30 18) + (2 : Int32)).toNatClampNeg))] [2, 3, 1, 0] rfl (g_X9_step_L103 hC x1 z0 (r3.2 1 ((r3.2 30 18) + (2 : Int32)).toNatClampNeg) (0 : Int32) r5.2)
    · refine gx_iconst (v := (2 : Int32)) (pc' := 99) hC rfl dX9_step_98 (by decide) ?_
      refine gx_goto hC 103 dX9_step_99 (by decide) ?_
      exact gx_sub [(0, .ref (a 0)), (1, .int x1), (2, .int z0), (3, .int (r3.2 1 ((r3.2 30 18) + (2 : Int32)).toNatClampNeg))] [2, 3, 1, 0] rfl (g_X9_step_L103 hC x1 z0 (r3.2 1 ((r3.2 30 18) + (2 : Int32)).toNatClampNeg) (2 : Int32) r5.2)
set_option maxHeartbeats 4000000 in
set_option maxRecDepth 100000 in
theorem c_X9_step {l : Launch} {D : va_G} {tZ : Nat} (cI cZ cR : ClassId) (a : Nat → Nat)  (S : St) : MI l D (tyl cI cZ cR) tZ (wM cI cZ a) yX9_step cX9_step 5 (some .int) rm_X9_step [.ref (a 0)] S (m_X9_step  S) := by
  refine gx_metI (by decide) (Nat.le_of_ble_eq_true rfl) ?_
  intro p e s m below meth c A hC
  refine gx_sub [(0, .ref (a 0))] [0] rfl ?_
  rw [m_X9_step]
  refine gx_aload_n (pc' := 1) hC rfl dX9_step_0 rfl ?_
  refine gx_get (pc' := 4) hC 0 (atM0 cI cZ a _) rfl inw_X9 17 (by decide) lk_X9_63 rfl rfl dX9_step_1 ?_
  refine gx_if_eq (pc' := 7) hC 22 rfl dX9_step_4 (by decide) (fun h1 => ?_) (fun h1 => ?_)
  · refine gx_aload_n (pc' := 23) hC rfl dX9_step_22 rfl ?_
    refine gx_iconst (v := (1 : Int32)) (pc' := 24) hC rfl dX9_step_23 (by decide) ?_
    refine gx_put (pc' := 27) hC tyX9_ok nmX9 0 (atM0 cI cZ a _) rfl inw_X9 0 (by decide) lk_X9_59 rfl rfl rfl (Nat.le_of_ble_eq_true rfl) (st S 30 0 (1 : Int32)) (ptM0_0 cI cZ a _ _) rfl dX9_step_24 ?_
    refine gx_iconst (v := (0 : Int32)) (pc' := 28) hC rfl dX9_step_27 (by decide) ?_
    exact gx_iret hC dX9_step_28
  · refine gx_aload_n (pc' := 8) hC rfl dX9_step_7 rfl ?_
    refine gx_aload_n (pc' := 9) hC rfl dX9_step_8 rfl ?_
    refine gx_get (pc' := 12) hC 0 (atM0 cI cZ a _) rfl inw_X9 18 (by decide) lk_X9_67 rfl rfl dX9_step_9 ?_
    refine gx_aload_n (pc' := 13) hC rfl dX9_step_12 rfl ?_
    refine gx_get (pc' := 16) hC 0 (atM0 cI cZ a _) rfl inw_X9 2 (by decide) lk_X9_70 rfl rfl dX9_step_13 ?_
    refine gx_callVI (pc' := 19) hC (c_X9_isWhole cI cZ cR a (S 30 18) (S 30 2) _) 0 (atM0 cI cZ a _) rfl kw_X9_115 hy_X9_isWhole ⟨rfl, rfl⟩ (by decide) rfl rfl (Nat.le_of_ble_eq_true rfl) rfl dX9_step_16 (fun r1 => ?_)
    refine gx_if_ne (pc' := 22) hC 29 rfl dX9_step_19 (by decide) (fun h2 => ?_) (fun h2 => ?_)
    · refine gx_aload_n (pc' := 23) hC rfl dX9_step_22 rfl ?_
      refine gx_iconst (v := (1 : Int32)) (pc' := 24) hC rfl dX9_step_23 (by decide) ?_
      refine gx_put (pc' := 27) hC tyX9_ok nmX9 0 (atM0 cI cZ a _) rfl inw_X9 0 (by decide) lk_X9_59 rfl rfl rfl (Nat.le_of_ble_eq_true rfl) (st r1.2 30 0 (1 : Int32)) (ptM0_0 cI cZ a _ _) rfl dX9_step_24 ?_
      refine gx_iconst (v := (0 : Int32)) (pc' := 28) hC rfl dX9_step_27 (by decide) ?_
      exact gx_iret hC dX9_step_28
    · refine gx_aload_n (pc' := 30) hC rfl dX9_step_29 rfl ?_
      refine gx_get (pc' := 33) hC 0 (atM0 cI cZ a _) rfl inw_X9 1 (by decide) lk_X9_7 rfl rfl dX9_step_30 ?_
      refine gx_aload_n (pc' := 34) hC rfl dX9_step_33 rfl ?_
      refine gx_get (pc' := 37) hC 0 (atM0 cI cZ a _) rfl inw_X9 18 (by decide) lk_X9_67 rfl rfl dX9_step_34 ?_
      refine gx_iald (pc' := 38) hC 1 0 (atM1 cI cZ a _) rfl rfl dX9_step_37 ?_
      refine gx_istore_n (pc' := 39) hC [(1, .int (r1.2 1 (r1.2 30 18).toNatClampNeg)), (0, .ref (a 0))] rfl dX9_step_38 (by decide) rfl ?_
      refine gx_iload_n (pc' := 40) hC rfl dX9_step_39 rfl ?_
      refine gx_callSI (pc' := 43) hC (c_X9_lengthOf cI cZ cR a (r1.2 1 (r1.2 30 18).toNatClampNeg) _) kw_X9_79 hy_X9_lengthOf ⟨rfl, rfl⟩ (by decide) rfl rfl (Nat.le_of_ble_eq_true rfl) rfl dX9_step_40 (fun r2 => ?_)
      refine gx_iconst (v := (1 : Int32)) (pc' := 44) hC rfl dX9_step_43 (by decide) ?_
      refine gx_icmp_le (pc' := 47) hC 61 rfl dX9_step_44 (by decide) (fun h3 => ?_) (fun h3 => ?_)
      · refine gx_iconst (v := (0 : Int32)) (pc' := 62) hC rfl dX9_step_61 (by decide) ?_
        exact gx_sub [(0, .ref (a 0)), (1, .int (r1.2 1 (r1.2 30 18).toNatClampNeg))] [1, 0] rfl (g_X9_step_L62 hC (r1.2 1 (r1.2 30 18).toNatClampNeg) (0 : Int32) r2.2)
      · refine gx_aload_n (pc' := 48) hC rfl dX9_step_47 rfl ?_
        refine gx_get (pc' := 51) hC 0 (atM0 cI cZ a _) rfl inw_X9 1 (by decide) lk_X9_7 rfl rfl dX9_step_48 ?_
        refine gx_aload_n (pc' := 52) hC rfl dX9_step_51 rfl ?_
        refine gx_get (pc' := 55) hC 0 (atM0 cI cZ a _) rfl inw_X9 18 (by decide) lk_X9_67 rfl rfl dX9_step_52 ?_
        refine gx_iconst (v := (1 : Int32)) (pc' := 56) hC rfl dX9_step_55 (by decide) ?_
        refine gx_iadd (pc' := 57) hC rfl dX9_step_56 ?_
        refine gx_iald (pc' := 58) hC 1 0 (atM1 cI cZ a _) rfl rfl dX9_step_57 ?_
        refine gx_goto hC 62 dX9_step_58 (by decide) ?_
        exact gx_sub [(0, .ref (a 0)), (1, .int (r1.2 1 (r1.2 30 18).toNatClampNeg))] [1, 0] rfl (g_X9_step_L62 hC (r1.2 1 (r1.2 30 18).toNatClampNeg) (r2.2 1 ((r2.2 30 18) + (1 : Int32)).toNatClampNeg) r2.2)
set_option maxHeartbeats 4000000 in
set_option maxRecDepth 100000 in
theorem c_X9_machine {l : Launch} {D : va_G} {tZ : Nat} (cI cZ cR : ClassId) (a : Nat → Nat) (x1 : Int32) (S : St) : MI l D (tyl cI cZ cR) tZ (wM cI cZ a) yX9_machine cX9_machine 2 (some .int) rm_X9_machine [.ref (a 0), .int x1] S (m_X9_machine x1 S) := by
  refine gx_metI (by decide) (Nat.le_of_ble_eq_true rfl) ?_
  intro p e s m below meth c A hC
  refine gx_sub [(0, .ref (a 0)), (1, .int x1)] [0, 1] rfl ?_
  rw [m_X9_machine]
  refine gx_aload_n (pc' := 1) hC rfl dX9_machine_0 rfl ?_
  refine gx_iconst (v := (0 : Int32)) (pc' := 2) hC rfl dX9_machine_1 (by decide) ?_
  refine gx_put (pc' := 5) hC tyX9_ok nmX9 0 (atM0 cI cZ a _) rfl inw_X9 0 (by decide) lk_X9_59 rfl rfl rfl (Nat.le_of_ble_eq_true rfl) (st S 30 0 (0 : Int32)) (ptM0_0 cI cZ a _ _) rfl dX9_machine_2 ?_
  refine gx_aload_n (pc' := 6) hC rfl dX9_machine_5 rfl ?_
  refine gx_get (pc' := 9) hC 0 (atM0 cI cZ a _) rfl inw_X9 16 (by decide) lk_X9_157 rfl rfl dX9_machine_6 ?_
  refine gx_if_eq (pc' := 12) hC 22 rfl dX9_machine_9 (by decide) (fun h1 => ?_) (fun h1 => ?_)
  · refine gx_iconst (v := (-1 : Int32)) (pc' := 23) hC rfl dX9_machine_22 (by decide) ?_
    exact gx_iret hC dX9_machine_23
  · refine gx_iload_n (pc' := 13) hC rfl dX9_machine_12 rfl ?_
    refine gx_if_lt (pc' := 16) hC 22 rfl dX9_machine_13 (by decide) (fun h2 => ?_) (fun h2 => ?_)
    · refine gx_iconst (v := (-1 : Int32)) (pc' := 23) hC rfl dX9_machine_22 (by decide) ?_
      exact gx_iret hC dX9_machine_23
    · refine gx_iload_n (pc' := 17) hC rfl dX9_machine_16 rfl ?_
      refine gx_bipush (v := (6 : Int32)) (pc' := 19) hC rfl dX9_machine_17 (by decide) ?_
      refine gx_icmp_le (pc' := 22) hC 24 rfl dX9_machine_19 (by decide) (fun h3 => ?_) (fun h3 => ?_)
      · refine gx_iload_n (pc' := 25) hC rfl dX9_machine_24 rfl ?_
        refine gx_if_ne (pc' := 28) hC 35 rfl dX9_machine_25 (by decide) (fun h4 => ?_) (fun h4 => ?_)
        · refine gx_aload_n (pc' := 29) hC rfl dX9_machine_28 rfl ?_
          refine gx_get (pc' := 32) hC 0 (atM0 cI cZ a _) rfl inw_X9 18 (by decide) lk_X9_67 rfl rfl dX9_machine_29 ?_
          refine gx_goto hC 79 dX9_machine_32 (by decide) ?_
          exact gx_iret hC dX9_machine_79
        · refine gx_iload_n (pc' := 36) hC rfl dX9_machine_35 rfl ?_
          refine gx_iconst (v := (1 : Int32)) (pc' := 37) hC rfl dX9_machine_36 (by decide) ?_
          refine gx_icmp_ne (pc' := 40) hC 47 rfl dX9_machine_37 (by decide) (fun h5 => ?_) (fun h5 => ?_)
          · refine gx_aload_n (pc' := 41) hC rfl dX9_machine_40 rfl ?_
            refine gx_get (pc' := 44) hC 0 (atM0 cI cZ a _) rfl inw_X9 19 (by decide) lk_X9_163 rfl rfl dX9_machine_41 ?_
            refine gx_goto hC 79 dX9_machine_44 (by decide) ?_
            exact gx_iret hC dX9_machine_79
          · refine gx_iload_n (pc' := 48) hC rfl dX9_machine_47 rfl ?_
            refine gx_iconst (v := (5 : Int32)) (pc' := 49) hC rfl dX9_machine_48 (by decide) ?_
            refine gx_icmp_ge (pc' := 52) hC 63 rfl dX9_machine_49 (by decide) (fun h6 => ?_) (fun h6 => ?_)
            · refine gx_iload_n (pc' := 64) hC rfl dX9_machine_63 rfl ?_
              refine gx_iconst (v := (5 : Int32)) (pc' := 65) hC rfl dX9_machine_64 (by decide) ?_
              refine gx_icmp_ne (pc' := 68) hC 75 rfl dX9_machine_65 (by decide) (fun h7 => ?_) (fun h7 => ?_)
              · refine gx_aload_n (pc' := 69) hC rfl dX9_machine_68 rfl ?_
                refine gx_get (pc' := 72) hC 0 (atM0 cI cZ a _) rfl inw_X9 20 (by decide) lk_X9_160 rfl rfl dX9_machine_69 ?_
                refine gx_goto hC 79 dX9_machine_72 (by decide) ?_
                exact gx_iret hC dX9_machine_79
              · refine gx_aload_n (pc' := 76) hC rfl dX9_machine_75 rfl ?_
                refine gx_get (pc' := 79) hC 0 (atM0 cI cZ a _) rfl inw_X9 23 (by decide) lk_X9_166 rfl rfl dX9_machine_76 ?_
                exact gx_iret hC dX9_machine_79
            · refine gx_aload_n (pc' := 53) hC rfl dX9_machine_52 rfl ?_
              refine gx_get (pc' := 56) hC 0 (atM0 cI cZ a _) rfl inw_X9 21 (by decide) lk_X9_47 rfl rfl dX9_machine_53 ?_
              refine gx_iload_n (pc' := 57) hC rfl dX9_machine_56 rfl ?_
              refine gx_iconst (v := (2 : Int32)) (pc' := 58) hC rfl dX9_machine_57 (by decide) ?_
              refine gx_isub (pc' := 59) hC rfl dX9_machine_58 ?_
              refine gx_iald (pc' := 60) hC 13 0 (atM13 cI cZ a _) rfl rfl dX9_machine_59 ?_
              refine gx_goto hC 79 dX9_machine_60 (by decide) ?_
              exact gx_iret hC dX9_machine_79
      · refine gx_iconst (v := (-1 : Int32)) (pc' := 23) hC rfl dX9_machine_22 (by decide) ?_
        exact gx_iret hC dX9_machine_23
set_option maxHeartbeats 4000000 in
set_option maxRecDepth 100000 in
theorem c_X9_call {l : Launch} {D : va_G} {tZ : Nat} (cI cZ cR : ClassId) (a : Nat → Nat) (x1 : Int32) (S : St) : MI l D (tyl cI cZ cR) tZ (wM cI cZ a) yX9_call cX9_call 2 (some .int) rm_X9_call [.ref (a 0), .int x1] S (m_X9_call x1 S) := by
  refine gx_metI (by decide) (Nat.le_of_ble_eq_true rfl) ?_
  intro p e s m below meth c A hC
  refine gx_sub [(0, .ref (a 0)), (1, .int x1)] [0, 1] rfl ?_
  rw [m_X9_call]
  refine gx_aload_n (pc' := 1) hC rfl dX9_call_0 rfl ?_
  refine gx_iconst (v := (0 : Int32)) (pc' := 2) hC rfl dX9_call_1 (by decide) ?_
  refine gx_put (pc' := 5) hC tyX9_ok nmX9 0 (atM0 cI cZ a _) rfl inw_X9 0 (by decide) lk_X9_59 rfl rfl rfl (Nat.le_of_ble_eq_true rfl) (st S 30 0 (0 : Int32)) (ptM0_0 cI cZ a _ _) rfl dX9_call_2 ?_
  refine gx_iload_n (pc' := 6) hC rfl dX9_call_5 rfl ?_
  refine gx_if_lt (pc' := 9) hC 17 rfl dX9_call_6 (by decide) (fun h1 => ?_) (fun h1 => ?_)
  · refine gx_iconst (v := (-1 : Int32)) (pc' := 18) hC rfl dX9_call_17 (by decide) ?_
    refine gx_goto hC 34 dX9_call_18 (by decide) ?_
    exact gx_iret hC dX9_call_34
  · refine gx_iload_n (pc' := 10) hC rfl dX9_call_9 rfl ?_
    refine gx_aload_n (pc' := 11) hC rfl dX9_call_10 rfl ?_
    refine gx_get (pc' := 14) hC 0 (atM0 cI cZ a _) rfl inw_X9 23 (by decide) lk_X9_166 rfl rfl dX9_call_11 ?_
    refine gx_icmp_lt (pc' := 17) hC 21 rfl dX9_call_14 (by decide) (fun h2 => ?_) (fun h2 => ?_)
    · refine gx_aload_n (pc' := 22) hC rfl dX9_call_21 rfl ?_
      refine gx_get (pc' := 25) hC 0 (atM0 cI cZ a _) rfl inw_X9 24 (by decide) lk_X9_53 rfl rfl dX9_call_22 ?_
      refine gx_aload_n (pc' := 26) hC rfl dX9_call_25 rfl ?_
      refine gx_get (pc' := 29) hC 0 (atM0 cI cZ a _) rfl inw_X9 23 (by decide) lk_X9_166 rfl rfl dX9_call_26 ?_
      refine gx_iconst (v := (1 : Int32)) (pc' := 30) hC rfl dX9_call_29 (by decide) ?_
      refine gx_isub (pc' := 31) hC rfl dX9_call_30 ?_
      refine gx_iload_n (pc' := 32) hC rfl dX9_call_31 rfl ?_
      refine gx_isub (pc' := 33) hC rfl dX9_call_32 ?_
      refine gx_iald (pc' := 34) hC 15 0 (atM15 cI cZ a _) rfl rfl dX9_call_33 ?_
      exact gx_iret hC dX9_call_34
    · refine gx_iconst (v := (-1 : Int32)) (pc' := 18) hC rfl dX9_call_17 (by decide) ?_
      refine gx_goto hC 34 dX9_call_18 (by decide) ?_
      exact gx_iret hC dX9_call_34
set_option maxHeartbeats 4000000 in
set_option maxRecDepth 100000 in
theorem g_X9_nextFrame_L113 {p : Program} {l : Launch} {e : Env} {s : State} {m : MethodId} {args : Array Value} {below : List Frame} {meth : Method} {c : Code} {D : va_G} {cI cZ cR : ClassId} {a : Nat → Nat} {tZ : Nat} {A : Nat → Prop} (hC : CX p s m args meth c cX9_nextFrame 6 (some .boolean) yX9_nextFrame.cls D (tyl cI cZ cR) tZ A) (k78 : Int32 → Int64 → Int32 → St → Option (Int32 × St)) (hk78 : ∀ (x1 : Int32) (x2 : Int64) (x4 : Int32) (S : St), GX p l e rm_X9_nextFrame s m args below meth c 6 D A (wM cI cZ a) (KI below D (tyl cI cZ cR) (wM cI cZ a) A args s) 78 [(0, .ref (a 0)), (1, .int x1), (2, .long x2), (4, .int x4)] [] S (k78 x1 x2 x4 S)) (x1 : Int32) (x2 : Int64) (x4 : Int32) (x5 : Int32) (S : St) : GX p l e rm_X9_nextFrame s m args below meth c 6 D A (wM cI cZ a) (KI below D (tyl cI cZ cR) (wM cI cZ a) A args s) 113 [(0, .ref (a 0)), (1, .int x1), (2, .long x2), (4, .int x4), (5, .int x5)] [] S (m_X9_nextFrame_L113 k78 x1 x2 x4 x5 S) := by
  rw [m_X9_nextFrame_L113]
  refine gx_aload_n (pc' := 114) hC rfl dX9_nextFrame_113 rfl ?_
  refine gx_get (pc' := 117) hC 0 (atM0 cI cZ a _) rfl inw_X9 26 (by decide) lk_X9_56 rfl rfl dX9_nextFrame_114 ?_
  refine gx_iload_n (pc' := 118) hC rfl dX9_nextFrame_117 rfl ?_
  refine gx_bipush (v := (7 : Int32)) (pc' := 120) hC rfl dX9_nextFrame_118 (by decide) ?_
  refine gx_iadd (pc' := 121) hC rfl dX9_nextFrame_120 ?_
  refine gx_iload (pc' := 123) hC rfl dX9_nextFrame_121 rfl ?_
  refine gx_iadd (pc' := 124) hC rfl dX9_nextFrame_123 ?_
  refine gx_iload (pc' := 126) hC rfl dX9_nextFrame_124 rfl ?_
  refine gx_if_le (pc' := 129) hC 142 rfl dX9_nextFrame_126 (by decide) (fun h7 => ?_) (fun h7 => ?_)
  · refine gx_aload_n (pc' := 143) hC rfl dX9_nextFrame_142 rfl ?_
    refine gx_get (pc' := 146) hC 0 (atM0 cI cZ a _) rfl inw_X9 26 (by decide) lk_X9_56 rfl rfl dX9_nextFrame_143 ?_
    refine gx_iload_n (pc' := 147) hC rfl dX9_nextFrame_146 rfl ?_
    refine gx_iconst (v := (2 : Int32)) (pc' := 148) hC rfl dX9_nextFrame_147 (by decide) ?_
    refine gx_iadd (pc' := 149) hC rfl dX9_nextFrame_148 ?_
    refine gx_iload (pc' := 151) hC rfl dX9_nextFrame_149 rfl ?_
    refine gx_iadd (pc' := 152) hC rfl dX9_nextFrame_151 ?_
    refine gx_iald (pc' := 153) hC 16 0 (atM16 cI cZ a _) rfl rfl dX9_nextFrame_152 ?_
    refine gx_iast (pc' := 154) hC 16 0 (atM16 cI cZ a _) rfl (st S 26 ((x1 + (7 : Int32)) + x4).toNatClampNeg (S 26 ((x1 + (2 : Int32)) + x4).toNatClampNeg)) (stM16 cI cZ a _ _ _) rfl dX9_nextFrame_153 ?_
    refine gx_iinc (v := (x4 + (1 : Int32))) (pc' := 157) hC [(4, .int (x4 + (1 : Int32))), (0, .ref (a 0)), (1, .int x1), (2, .long x2), (5, .int x5)] rfl dX9_nextFrame_154 rfl rfl (by decide) rfl ?_
    refine gx_goto hC 78 dX9_nextFrame_157 (by decide) ?_
    exact gx_sub [(0, .ref (a 0)), (1, .int x1), (2, .long x2), (4, .int (x4 + (1 : Int32)))] [1, 2, 3, 0] rfl (hk78 x1 x2 (x4 + (1 : Int32)) (st S 26 ((x1 + (7 : Int32)) + x4).toNatClampNeg (S 26 ((x1 + (2 : Int32)) + x4).toNatClampNeg)))
  · refine gx_aload_n (pc' := 130) hC rfl dX9_nextFrame_129 rfl ?_
    refine gx_get (pc' := 133) hC 0 (atM0 cI cZ a _) rfl inw_X9 22 (by decide) lk_X9_50 rfl rfl dX9_nextFrame_130 ?_
    refine gx_lload_n (pc' := 134) hC rfl dX9_nextFrame_133 rfl ?_
    refine gx_l2i (pc' := 135) hC rfl dX9_nextFrame_134 ?_
    refine gx_iload (pc' := 137) hC rfl dX9_nextFrame_135 rfl ?_
    refine gx_isub (pc' := 138) hC rfl dX9_nextFrame_137 ?_
    refine gx_iald (pc' := 139) hC 14 0 (atM14 cI cZ a _) rfl rfl dX9_nextFrame_138 ?_
    refine gx_goto hC 153 dX9_nextFrame_139 (by decide) ?_
    refine gx_iast (pc' := 154) hC 16 0 (atM16 cI cZ a _) rfl (st S 26 ((x1 + (7 : Int32)) + x4).toNatClampNeg (S 22 ((x2.toInt32) - x5).toNatClampNeg)) (stM16 cI cZ a _ _ _) rfl dX9_nextFrame_153 ?_
    refine gx_iinc (v := (x4 + (1 : Int32))) (pc' := 157) hC [(4, .int (x4 + (1 : Int32))), (0, .ref (a 0)), (1, .int x1), (2, .long x2), (5, .int x5)] rfl dX9_nextFrame_154 rfl rfl (by decide) rfl ?_
    refine gx_goto hC 78 dX9_nextFrame_157 (by decide) ?_
    exact gx_sub [(0, .ref (a 0)), (1, .int x1), (2, .long x2), (4, .int (x4 + (1 : Int32)))] [1, 2, 3, 0] rfl (hk78 x1 x2 (x4 + (1 : Int32)) (st S 26 ((x1 + (7 : Int32)) + x4).toNatClampNeg (S 22 ((x2.toInt32) - x5).toNatClampNeg)))
set_option maxHeartbeats 4000000 in
set_option maxRecDepth 100000 in
theorem g_X9_nextFrame_L78 {p : Program} {l : Launch} {e : Env} {s : State} {m : MethodId} {args : Array Value} {below : List Frame} {meth : Method} {c : Code} {D : va_G} {cI cZ cR : ClassId} {a : Nat → Nat} {tZ : Nat} {A : Nat → Prop} (hC : CX p s m args meth c cX9_nextFrame 6 (some .boolean) yX9_nextFrame.cls D (tyl cI cZ cR) tZ A) : ∀ (n : Nat) (x1 : Int32) (x2 : Int64) (x4 : Int32) (S : St), GX p l e rm_X9_nextFrame s m args below meth c 6 D A (wM cI cZ a) (KI below D (tyl cI cZ cR) (wM cI cZ a) A args s) 78 [(0, .ref (a 0)), (1, .int x1), (2, .long x2), (4, .int x4)] [] S (m_X9_nextFrame_L78 n x1 x2 x4 S) := by
  intro n
  induction n with
  | zero => intro x1 x2 x4 S; exact gx_none
  | succ n ih =>
    intro x1 x2 x4 S
    rw [m_X9_nextFrame_L78]
    refine gx_iload (pc' := 80) hC rfl dX9_nextFrame_78 rfl ?_
    refine gx_iconst (v := (3 : Int32)) (pc' := 81) hC rfl dX9_nextFrame_80 (by decide) ?_
    refine gx_icmp_ge (pc' := 84) hC 160 rfl dX9_nextFrame_81 (by decide) (fun h4 => ?_) (fun h4 => ?_)
    · refine gx_aload_n (pc' := 161) hC rfl dX9_nextFrame_160 rfl ?_
      refine gx_get (pc' := 164) hC 0 (atM0 cI cZ a _) rfl inw_X9 26 (by decide) lk_X9_56 rfl rfl dX9_nextFrame_161 ?_
      refine gx_iload_n (pc' := 165) hC rfl dX9_nextFrame_164 rfl ?_
      refine gx_iconst (v := (5 : Int32)) (pc' := 166) hC rfl dX9_nextFrame_165 (by decide) ?_
      refine gx_iadd (pc' := 167) hC rfl dX9_nextFrame_166 ?_
      refine gx_aload_n (pc' := 168) hC rfl dX9_nextFrame_167 rfl ?_
      refine gx_get (pc' := 171) hC 0 (atM0 cI cZ a _) rfl inw_X9 22 (by decide) lk_X9_50 rfl rfl dX9_nextFrame_168 ?_
      refine gx_lload_n (pc' := 172) hC rfl dX9_nextFrame_171 rfl ?_
      refine gx_l2i (pc' := 173) hC rfl dX9_nextFrame_172 ?_
      refine gx_iconst (v := (1 : Int32)) (pc' := 174) hC rfl dX9_nextFrame_173 (by decide) ?_
      refine gx_isub (pc' := 175) hC rfl dX9_nextFrame_174 ?_
      refine gx_iald (pc' := 176) hC 14 0 (atM14 cI cZ a _) rfl rfl dX9_nextFrame_175 ?_
      refine gx_iast (pc' := 177) hC 16 0 (atM16 cI cZ a _) rfl (st S 26 (x1 + (5 : Int32)).toNatClampNeg (S 22 ((x2.toInt32) - (1 : Int32)).toNatClampNeg)) (stM16 cI cZ a _ _ _) rfl dX9_nextFrame_176 ?_
      refine gx_aload_n (pc' := 178) hC rfl dX9_nextFrame_177 rfl ?_
      refine gx_get (pc' := 181) hC 0 (atM0 cI cZ a _) rfl inw_X9 26 (by decide) lk_X9_56 rfl rfl dX9_nextFrame_178 ?_
      refine gx_iload_n (pc' := 182) hC rfl dX9_nextFrame_181 rfl ?_
      refine gx_bipush (v := (6 : Int32)) (pc' := 184) hC rfl dX9_nextFrame_182 (by decide) ?_
      refine gx_iadd (pc' := 185) hC rfl dX9_nextFrame_184 ?_
      refine gx_lload_n (pc' := 186) hC rfl dX9_nextFrame_185 rfl ?_
      refine gx_l2i (pc' := 187) hC rfl dX9_nextFrame_186 ?_
      refine gx_iast (pc' := 188) hC 16 0 (atM16 cI cZ a _) rfl (st (st S 26 (x1 + (5 : Int32)).toNatClampNeg (S 22 ((x2.toInt32) - (1 : Int32)).toNatClampNeg)) 26 (x1 + (6 : Int32)).toNatClampNeg (x2.toInt32)) (stM16 cI cZ a _ _ _) rfl dX9_nextFrame_187 ?_
      refine gx_aload_n (pc' := 189) hC rfl dX9_nextFrame_188 rfl ?_
      refine gx_dup (pc' := 190) hC rfl dX9_nextFrame_189 rfl ?_
      refine gx_get (pc' := 193) hC 0 (atM0 cI cZ a _) rfl inw_X9 25 (by decide) lk_X9_179 rfl rfl dX9_nextFrame_190 ?_
      refine gx_iconst (v := (1 : Int32)) (pc' := 194) hC rfl dX9_nextFrame_193 (by decide) ?_
      refine gx_iadd (pc' := 195) hC rfl dX9_nextFrame_194 ?_
      refine gx_put (pc' := 198) hC tyX9_ok nmX9 0 (atM0 cI cZ a _) rfl inw_X9 25 (by decide) lk_X9_179 rfl rfl rfl (Nat.le_of_ble_eq_true rfl) (st (st (st S 26 (x1 + (5 : Int32)).toNatClampNeg (S 22 ((x2.toInt32) - (1 : Int32)).toNatClampNeg)) 26 (x1 + (6 : Int32)).toNatClampNeg (x2.toInt32)) 30 25 (((st (st S 26 (x1 + (5 : Int32)).toNatClampNeg (S 22 ((x2.toInt32) - (1 : Int32)).toNatClampNeg)) 26 (x1 + (6 : Int32)).toNatClampNeg (x2.toInt32)) 30 25) + (1 : Int32))) (ptM0_25 cI cZ a _ _) rfl dX9_nextFrame_195 ?_
      refine gx_iconst (v := (1 : Int32)) (pc' := 199) hC rfl dX9_nextFrame_198 (by decide) ?_
      exact gx_zret hC dX9_nextFrame_199
    · refine gx_aload_n (pc' := 85) hC rfl dX9_nextFrame_84 rfl ?_
      refine gx_get (pc' := 88) hC 0 (atM0 cI cZ a _) rfl inw_X9 13 (by decide) lk_X9_38 rfl rfl dX9_nextFrame_85 ?_
      refine gx_iconst (v := (2 : Int32)) (pc' := 89) hC rfl dX9_nextFrame_88 (by decide) ?_
      refine gx_iload (pc' := 91) hC rfl dX9_nextFrame_89 rfl ?_
      refine gx_iadd (pc' := 92) hC rfl dX9_nextFrame_91 ?_
      refine gx_iald (pc' := 93) hC 10 0 (atM10 cI cZ a _) rfl rfl dX9_nextFrame_92 ?_
      refine gx_istore (pc' := 95) hC [(5, .int (S 13 ((2 : Int32) + x4).toNatClampNeg)), (0, .ref (a 0)), (1, .int x1), (2, .long x2), (4, .int x4)] rfl dX9_nextFrame_93 (by decide) rfl ?_
      refine gx_iload (pc' := 97) hC rfl dX9_nextFrame_95 rfl ?_
      refine gx_if_le (pc' := 100) hC 113 rfl dX9_nextFrame_97 (by decide) (fun h5 => ?_) (fun h5 => ?_)
      · exact gx_sub [(0, .ref (a 0)), (1, .int x1), (2, .long x2), (4, .int x4), (5, .int (S 13 ((2 : Int32) + x4).toNatClampNeg))] [1, 2, 3, 4, 0] rfl (g_X9_nextFrame_L113 hC (m_X9_nextFrame_L78 n) ih x1 x2 x4 (S 13 ((2 : Int32) + x4).toNatClampNeg) S)
      · refine gx_lload_n (pc' := 101) hC rfl dX9_nextFrame_100 rfl ?_
        refine gx_iload (pc' := 103) hC rfl dX9_nextFrame_101 rfl ?_
        refine gx_i2l (pc' := 104) hC rfl dX9_nextFrame_103 ?_
        refine gx_lsub (pc' := 105) hC rfl dX9_nextFrame_104 ?_
        refine gx_callSI (pc' := 108) hC (c_X9_isWord cI cZ cR a (x2 - ((S 13 ((2 : Int32) + x4).toNatClampNeg).toInt64)) _) kw_X9_171 hy_X9_isWord ⟨rfl, rfl⟩ (by decide) rfl rfl (Nat.le_of_ble_eq_true rfl) rfl dX9_nextFrame_105 (fun r3 => ?_)
        refine gx_if_ne (pc' := 111) hC 113 rfl dX9_nextFrame_108 (by decide) (fun h6 => ?_) (fun h6 => ?_)
        · refine gx_iconst (v := (0 : Int32)) (pc' := 112) hC rfl dX9_nextFrame_111 (by decide) ?_
          exact gx_zret hC dX9_nextFrame_112
        · exact gx_sub [(0, .ref (a 0)), (1, .int x1), (2, .long x2), (4, .int x4), (5, .int (S 13 ((2 : Int32) + x4).toNatClampNeg))] [1, 2, 3, 4, 0] rfl (g_X9_nextFrame_L113 hC (m_X9_nextFrame_L78 n) ih x1 x2 x4 (S 13 ((2 : Int32) + x4).toNatClampNeg) r3.2)
set_option maxHeartbeats 4000000 in
set_option maxRecDepth 100000 in
theorem g_X9_nextFrame_L54 {p : Program} {l : Launch} {e : Env} {s : State} {m : MethodId} {args : Array Value} {below : List Frame} {meth : Method} {c : Code} {D : va_G} {cI cZ cR : ClassId} {a : Nat → Nat} {tZ : Nat} {A : Nat → Prop} (hC : CX p s m args meth c cX9_nextFrame 6 (some .boolean) yX9_nextFrame.cls D (tyl cI cZ cR) tZ A) (x1 : Int32) (z0 : Int32) (S : St) : GX p l e rm_X9_nextFrame s m args below meth c 6 D A (wM cI cZ a) (KI below D (tyl cI cZ cR) (wM cI cZ a) A args s) 54 [(0, .ref (a 0)), (1, .int x1)] [.int z0] S (m_X9_nextFrame_L54 x1 z0 S) := by
  rw [m_X9_nextFrame_L54]
  refine gx_i2l (pc' := 55) hC rfl dX9_nextFrame_54 ?_
  refine gx_aload_n (pc' := 56) hC rfl dX9_nextFrame_55 rfl ?_
  refine gx_get (pc' := 59) hC 0 (atM0 cI cZ a _) rfl inw_X9 13 (by decide) lk_X9_38 rfl rfl dX9_nextFrame_56 ?_
  refine gx_iconst (v := (1 : Int32)) (pc' := 60) hC rfl dX9_nextFrame_59 (by decide) ?_
  refine gx_iald (pc' := 61) hC 10 0 (atM10 cI cZ a _) rfl rfl dX9_nextFrame_60 ?_
  refine gx_i2l (pc' := 62) hC rfl dX9_nextFrame_61 ?_
  refine gx_ladd (pc' := 63) hC rfl dX9_nextFrame_62 ?_
  refine gx_lstore_n (pc' := 64) hC [(2, .long ((z0.toInt64) + ((S 13 (1 : Int32).toNatClampNeg).toInt64))), (0, .ref (a 0)), (1, .int x1)] rfl dX9_nextFrame_63 (by decide) rfl ?_
  refine gx_lload_n (pc' := 65) hC rfl dX9_nextFrame_64 rfl ?_
  refine gx_lconst (v := (1 : Int64)) (pc' := 66) hC rfl dX9_nextFrame_65 (by decide) ?_
  refine gx_lsub (pc' := 67) hC rfl dX9_nextFrame_66 ?_
  refine gx_callSI (pc' := 70) hC (c_X9_isWord cI cZ cR a (((z0.toInt64) + ((S 13 (1 : Int32).toNatClampNeg).toInt64)) - (1 : Int64)) _) kw_X9_171 hy_X9_isWord ⟨rfl, rfl⟩ (by decide) rfl rfl (Nat.le_of_ble_eq_true rfl) rfl dX9_nextFrame_67 (fun r2 => ?_)
  refine gx_if_ne (pc' := 73) hC 75 rfl dX9_nextFrame_70 (by decide) (fun h3 => ?_) (fun h3 => ?_)
  · refine gx_iconst (v := (0 : Int32)) (pc' := 74) hC rfl dX9_nextFrame_73 (by decide) ?_
    exact gx_zret hC dX9_nextFrame_74
  · refine gx_iconst (v := (0 : Int32)) (pc' := 76) hC rfl dX9_nextFrame_75 (by decide) ?_
    refine gx_istore (pc' := 78) hC [(4, .int (0 : Int32)), (2, .long ((z0.toInt64) + ((S 13 (1 : Int32).toNatClampNeg).toInt64))), (0, .ref (a 0)), (1, .int x1)] rfl dX9_nextFrame_76 (by decide) rfl ?_
    exact gx_sub [(0, .ref (a 0)), (1, .int x1), (2, .long ((z0.toInt64) + ((S 13 (1 : Int32).toNatClampNeg).toInt64))), (4, .int (0 : Int32))] [2, 3, 1, 0] rfl (g_X9_nextFrame_L78 hC 10000 x1 ((z0.toInt64) + ((S 13 (1 : Int32).toNatClampNeg).toInt64)) (0 : Int32) r2.2)
set_option maxHeartbeats 4000000 in
set_option maxRecDepth 100000 in
theorem c_X9_nextFrame {l : Launch} {D : va_G} {tZ : Nat} (cI cZ cR : ClassId) (a : Nat → Nat)  (S : St) : MI l D (tyl cI cZ cR) tZ (wM cI cZ a) yX9_nextFrame cX9_nextFrame 6 (some .boolean) rm_X9_nextFrame [.ref (a 0)] S (m_X9_nextFrame  S) := by
  refine gx_metI (by decide) (Nat.le_of_ble_eq_true rfl) ?_
  intro p e s m below meth c A hC
  refine gx_sub [(0, .ref (a 0))] [0] rfl ?_
  rw [m_X9_nextFrame]
  refine gx_iconst (v := (5 : Int32)) (pc' := 1) hC rfl dX9_nextFrame_0 (by decide) ?_
  refine gx_aload_n (pc' := 2) hC rfl dX9_nextFrame_1 rfl ?_
  refine gx_get (pc' := 5) hC 0 (atM0 cI cZ a _) rfl inw_X9 25 (by decide) lk_X9_179 rfl rfl dX9_nextFrame_2 ?_
  refine gx_iconst (v := (1 : Int32)) (pc' := 6) hC rfl dX9_nextFrame_5 (by decide) ?_
  refine gx_isub (pc' := 7) hC rfl dX9_nextFrame_6 ?_
  refine gx_imul (pc' := 8) hC rfl dX9_nextFrame_7 ?_
  refine gx_istore_n (pc' := 9) hC [(1, .int ((5 : Int32) * ((S 30 25) - (1 : Int32)))), (0, .ref (a 0))] rfl dX9_nextFrame_8 (by decide) rfl ?_
  refine gx_aload_n (pc' := 10) hC rfl dX9_nextFrame_9 rfl ?_
  refine gx_aload_n (pc' := 11) hC rfl dX9_nextFrame_10 rfl ?_
  refine gx_get (pc' := 14) hC 0 (atM0 cI cZ a _) rfl inw_X9 26 (by decide) lk_X9_56 rfl rfl dX9_nextFrame_11 ?_
  refine gx_iload_n (pc' := 15) hC rfl dX9_nextFrame_14 rfl ?_
  refine gx_iald (pc' := 16) hC 16 0 (atM16 cI cZ a _) rfl rfl dX9_nextFrame_15 ?_
  refine gx_callVI (pc' := 19) hC (c_X9_findRow cI cZ cR a (S 26 ((5 : Int32) * ((S 30 25) - (1 : Int32))).toNatClampNeg) _) 0 (atM0 cI cZ a _) rfl kw_X9_154 hy_X9_findRow ⟨rfl, rfl⟩ (by decide) rfl rfl (Nat.le_of_ble_eq_true rfl) rfl dX9_nextFrame_16 (fun r1 => ?_)
  refine gx_iconst (v := (1 : Int32)) (pc' := 20) hC rfl dX9_nextFrame_19 (by decide) ?_
  refine gx_icmp_ge (pc' := 23) hC 25 rfl dX9_nextFrame_20 (by decide) (fun h1 => ?_) (fun h1 => ?_)
  · refine gx_aload_n (pc' := 26) hC rfl dX9_nextFrame_25 rfl ?_
    refine gx_get (pc' := 29) hC 0 (atM0 cI cZ a _) rfl inw_X9 13 (by decide) lk_X9_38 rfl rfl dX9_nextFrame_26 ?_
    refine gx_iconst (v := (0 : Int32)) (pc' := 30) hC rfl dX9_nextFrame_29 (by decide) ?_
    refine gx_iald (pc' := 31) hC 10 0 (atM10 cI cZ a _) rfl rfl dX9_nextFrame_30 ?_
    refine gx_iconst (v := (1 : Int32)) (pc' := 32) hC rfl dX9_nextFrame_31 (by decide) ?_
    refine gx_icmp_ne (pc' := 35) hC 46 rfl dX9_nextFrame_32 (by decide) (fun h2 => ?_) (fun h2 => ?_)
    · refine gx_aload_n (pc' := 36) hC rfl dX9_nextFrame_35 rfl ?_
      refine gx_get (pc' := 39) hC 0 (atM0 cI cZ a _) rfl inw_X9 26 (by decide) lk_X9_56 rfl rfl dX9_nextFrame_36 ?_
      refine gx_iload_n (pc' := 40) hC rfl dX9_nextFrame_39 rfl ?_
      refine gx_iconst (v := (2 : Int32)) (pc' := 41) hC rfl dX9_nextFrame_40 (by decide) ?_
      refine gx_iadd (pc' := 42) hC rfl dX9_nextFrame_41 ?_
      refine gx_iald (pc' := 43) hC 16 0 (atM16 cI cZ a _) rfl rfl dX9_nextFrame_42 ?_
      refine gx_goto hC 54 dX9_nextFrame_43 (by decide) ?_
      exact gx_sub [(0, .ref (a 0)), (1, .int ((5 : Int32) * ((S 30 25) - (1 : Int32))))] [1, 0] rfl (g_X9_nextFrame_L54 hC ((5 : Int32) * ((S 30 25) - (1 : Int32))) (r1.2 26 (((5 : Int32) * ((S 30 25) - (1 : Int32))) + (2 : Int32)).toNatClampNeg) r1.2)
    · refine gx_aload_n (pc' := 47) hC rfl dX9_nextFrame_46 rfl ?_
      refine gx_get (pc' := 50) hC 0 (atM0 cI cZ a _) rfl inw_X9 26 (by decide) lk_X9_56 rfl rfl dX9_nextFrame_47 ?_
      refine gx_iload_n (pc' := 51) hC rfl dX9_nextFrame_50 rfl ?_
      refine gx_iconst (v := (1 : Int32)) (pc' := 52) hC rfl dX9_nextFrame_51 (by decide) ?_
      refine gx_iadd (pc' := 53) hC rfl dX9_nextFrame_52 ?_
      refine gx_iald (pc' := 54) hC 16 0 (atM16 cI cZ a _) rfl rfl dX9_nextFrame_53 ?_
      exact gx_sub [(0, .ref (a 0)), (1, .int ((5 : Int32) * ((S 30 25) - (1 : Int32))))] [1, 0] rfl (g_X9_nextFrame_L54 hC ((5 : Int32) * ((S 30 25) - (1 : Int32))) (r1.2 26 (((5 : Int32) * ((S 30 25) - (1 : Int32))) + (1 : Int32)).toNatClampNeg) r1.2)
  · refine gx_iconst (v := (0 : Int32)) (pc' := 24) hC rfl dX9_nextFrame_23 (by decide) ?_
    exact gx_zret hC dX9_nextFrame_24
set_option maxHeartbeats 4000000 in
set_option maxRecDepth 100000 in
theorem g_X9_unwind_L121 {p : Program} {l : Launch} {e : Env} {s : State} {m : MethodId} {args : Array Value} {below : List Frame} {meth : Method} {c : Code} {D : va_G} {cI cZ cR : ClassId} {a : Nat → Nat} {tZ : Nat} {A : Nat → Prop} (hC : CX p s m args meth c cX9_unwind 2 (some .int) yX9_unwind.cls D (tyl cI cZ cR) tZ A) (x1 : Int32) (S : St) : GX p l e rm_X9_unwind s m args below meth c 2 D A (wM cI cZ a) (KI below D (tyl cI cZ cR) (wM cI cZ a) A args s) 121 [(0, .ref (a 0)), (1, .int x1)] [] S (m_X9_unwind_L121 x1 S) := by
  rw [m_X9_unwind_L121]
  refine gx_aload_n (pc' := 122) hC rfl dX9_unwind_121 rfl ?_
  refine gx_iload_n (pc' := 123) hC rfl dX9_unwind_122 rfl ?_
  refine gx_if_eq (pc' := 126) hC 133 rfl dX9_unwind_123 (by decide) (fun h7 => ?_) (fun h7 => ?_)
  · refine gx_iconst (v := (0 : Int32)) (pc' := 134) hC rfl dX9_unwind_133 (by decide) ?_
    refine gx_put (pc' := 137) hC tyX9_ok nmX9 0 (atM0 cI cZ a _) rfl inw_X9 25 (by decide) lk_X9_179 rfl rfl rfl (Nat.le_of_ble_eq_true rfl) (st S 30 25 (0 : Int32)) (ptM0_25 cI cZ a _ _) rfl dX9_unwind_134 ?_
    refine gx_iload_n (pc' := 138) hC rfl dX9_unwind_137 rfl ?_
    refine gx_if_eq (pc' := 141) hC 148 rfl dX9_unwind_138 (by decide) (fun h8 => ?_) (fun h8 => ?_)
    · refine gx_iconst (v := (-1 : Int32)) (pc' := 149) hC rfl dX9_unwind_148 (by decide) ?_
      exact gx_iret hC dX9_unwind_149
    · refine gx_aload_n (pc' := 142) hC rfl dX9_unwind_141 rfl ?_
      refine gx_get (pc' := 145) hC 0 (atM0 cI cZ a _) rfl inw_X9 25 (by decide) lk_X9_179 rfl rfl dX9_unwind_142 ?_
      refine gx_goto hC 149 dX9_unwind_145 (by decide) ?_
      exact gx_iret hC dX9_unwind_149
  · refine gx_aload_n (pc' := 127) hC rfl dX9_unwind_126 rfl ?_
    refine gx_get (pc' := 130) hC 0 (atM0 cI cZ a _) rfl inw_X9 25 (by decide) lk_X9_179 rfl rfl dX9_unwind_127 ?_
    refine gx_goto hC 134 dX9_unwind_130 (by decide) ?_
    refine gx_put (pc' := 137) hC tyX9_ok nmX9 0 (atM0 cI cZ a _) rfl inw_X9 25 (by decide) lk_X9_179 rfl rfl rfl (Nat.le_of_ble_eq_true rfl) (st S 30 25 (S 30 25)) (ptM0_25 cI cZ a _ _) rfl dX9_unwind_134 ?_
    refine gx_iload_n (pc' := 138) hC rfl dX9_unwind_137 rfl ?_
    refine gx_if_eq (pc' := 141) hC 148 rfl dX9_unwind_138 (by decide) (fun h9 => ?_) (fun h9 => ?_)
    · refine gx_iconst (v := (-1 : Int32)) (pc' := 149) hC rfl dX9_unwind_148 (by decide) ?_
      exact gx_iret hC dX9_unwind_149
    · refine gx_aload_n (pc' := 142) hC rfl dX9_unwind_141 rfl ?_
      refine gx_get (pc' := 145) hC 0 (atM0 cI cZ a _) rfl inw_X9 25 (by decide) lk_X9_179 rfl rfl dX9_unwind_142 ?_
      refine gx_goto hC 149 dX9_unwind_145 (by decide) ?_
      exact gx_iret hC dX9_unwind_149
set_option maxHeartbeats 4000000 in
set_option maxRecDepth 100000 in
theorem g_X9_unwind_L73 {p : Program} {l : Launch} {e : Env} {s : State} {m : MethodId} {args : Array Value} {below : List Frame} {meth : Method} {c : Code} {D : va_G} {cI cZ cR : ClassId} {a : Nat → Nat} {tZ : Nat} {A : Nat → Prop} (hC : CX p s m args meth c cX9_unwind 2 (some .int) yX9_unwind.cls D (tyl cI cZ cR) tZ A) : ∀ (n : Nat) (x1 : Int32) (S : St), GX p l e rm_X9_unwind s m args below meth c 2 D A (wM cI cZ a) (KI below D (tyl cI cZ cR) (wM cI cZ a) A args s) 73 [(0, .ref (a 0)), (1, .int x1)] [] S (m_X9_unwind_L73 n x1 S) := by
  intro n
  induction n with
  | zero => intro x1 S; exact gx_none
  | succ n ih =>
    intro x1 S
    rw [m_X9_unwind_L73]
    refine gx_iload_n (pc' := 74) hC rfl dX9_unwind_73 rfl ?_
    refine gx_if_eq (pc' := 77) hC 121 rfl dX9_unwind_74 (by decide) (fun h3 => ?_) (fun h3 => ?_)
    · exact gx_sub [(0, .ref (a 0)), (1, .int x1)] [0, 1] rfl (g_X9_unwind_L121 hC x1 S)
    · refine gx_aload_n (pc' := 78) hC rfl dX9_unwind_77 rfl ?_
      refine gx_get (pc' := 81) hC 0 (atM0 cI cZ a _) rfl inw_X9 26 (by decide) lk_X9_56 rfl rfl dX9_unwind_78 ?_
      refine gx_iconst (v := (5 : Int32)) (pc' := 82) hC rfl dX9_unwind_81 (by decide) ?_
      refine gx_aload_n (pc' := 83) hC rfl dX9_unwind_82 rfl ?_
      refine gx_get (pc' := 86) hC 0 (atM0 cI cZ a _) rfl inw_X9 25 (by decide) lk_X9_179 rfl rfl dX9_unwind_83 ?_
      refine gx_imul (pc' := 87) hC rfl dX9_unwind_86 ?_
      refine gx_iconst (v := (5 : Int32)) (pc' := 88) hC rfl dX9_unwind_87 (by decide) ?_
      refine gx_isub (pc' := 89) hC rfl dX9_unwind_88 ?_
      refine gx_iald (pc' := 90) hC 16 0 (atM16 cI cZ a _) rfl rfl dX9_unwind_89 ?_
      refine gx_sipush (v := (255 : Int32)) (pc' := 93) hC rfl dX9_unwind_90 (by decide) ?_
      refine gx_icmp_eq (pc' := 96) hC 121 rfl dX9_unwind_93 (by decide) (fun h4 => ?_) (fun h4 => ?_)
      · exact gx_sub [(0, .ref (a 0)), (1, .int x1)] [0, 1] rfl (g_X9_unwind_L121 hC x1 S)
      · refine gx_aload_n (pc' := 97) hC rfl dX9_unwind_96 rfl ?_
        refine gx_get (pc' := 100) hC 0 (atM0 cI cZ a _) rfl inw_X9 25 (by decide) lk_X9_179 rfl rfl dX9_unwind_97 ?_
        refine gx_bipush (v := (20 : Int32)) (pc' := 102) hC rfl dX9_unwind_100 (by decide) ?_
        refine gx_icmp_ge (pc' := 105) hC 116 rfl dX9_unwind_102 (by decide) (fun h5 => ?_) (fun h5 => ?_)
        · refine gx_iconst (v := (0 : Int32)) (pc' := 117) hC rfl dX9_unwind_116 (by decide) ?_
          refine gx_istore_n (pc' := 118) hC [(1, .int (0 : Int32)), (0, .ref (a 0))] rfl dX9_unwind_117 (by decide) rfl ?_
          refine gx_goto hC 73 dX9_unwind_118 (by decide) ?_
          exact gx_sub [(0, .ref (a 0)), (1, .int (0 : Int32))] [1, 0] rfl (ih (0 : Int32) S)
        · refine gx_aload_n (pc' := 106) hC rfl dX9_unwind_105 rfl ?_
          refine gx_callVI (pc' := 109) hC (c_X9_nextFrame cI cZ cR a  _) 0 (atM0 cI cZ a _) rfl kw_X9_182 hy_X9_nextFrame ⟨rfl, rfl⟩ (by decide) rfl rfl (Nat.le_of_ble_eq_true rfl) rfl dX9_unwind_106 (fun r1 => ?_)
          refine gx_if_eq (pc' := 112) hC 116 rfl dX9_unwind_109 (by decide) (fun h6 => ?_) (fun h6 => ?_)
          · refine gx_iconst (v := (0 : Int32)) (pc' := 117) hC rfl dX9_unwind_116 (by decide) ?_
            refine gx_istore_n (pc' := 118) hC [(1, .int (0 : Int32)), (0, .ref (a 0))] rfl dX9_unwind_117 (by decide) rfl ?_
            refine gx_goto hC 73 dX9_unwind_118 (by decide) ?_
            exact gx_sub [(0, .ref (a 0)), (1, .int (0 : Int32))] [1, 0] rfl (ih (0 : Int32) r1.2)
          · refine gx_iconst (v := (1 : Int32)) (pc' := 113) hC rfl dX9_unwind_112 (by decide) ?_
            refine gx_goto hC 117 dX9_unwind_113 (by decide) ?_
            refine gx_istore_n (pc' := 118) hC [(1, .int (1 : Int32)), (0, .ref (a 0))] rfl dX9_unwind_117 (by decide) rfl ?_
            refine gx_goto hC 73 dX9_unwind_118 (by decide) ?_
            exact gx_sub [(0, .ref (a 0)), (1, .int (1 : Int32))] [1, 0] rfl (ih (1 : Int32) r1.2)
set_option maxHeartbeats 4000000 in
set_option maxRecDepth 100000 in
theorem g_X9_unwind_L41 {p : Program} {l : Launch} {e : Env} {s : State} {m : MethodId} {args : Array Value} {below : List Frame} {meth : Method} {c : Code} {D : va_G} {cI cZ cR : ClassId} {a : Nat → Nat} {tZ : Nat} {A : Nat → Prop} (hC : CX p s m args meth c cX9_unwind 2 (some .int) yX9_unwind.cls D (tyl cI cZ cR) tZ A) : ∀ (n : Nat) (x1 : Int32) (S : St), GX p l e rm_X9_unwind s m args below meth c 2 D A (wM cI cZ a) (KI below D (tyl cI cZ cR) (wM cI cZ a) A args s) 41 [(0, .ref (a 0)), (1, .int x1)] [] S (m_X9_unwind_L41 n x1 S) := by
  intro n
  induction n with
  | zero => intro x1 S; exact gx_none
  | succ n ih =>
    intro x1 S
    rw [m_X9_unwind_L41]
    refine gx_iload_n (pc' := 42) hC rfl dX9_unwind_41 rfl ?_
    refine gx_iconst (v := (3 : Int32)) (pc' := 43) hC rfl dX9_unwind_42 (by decide) ?_
    refine gx_icmp_ge (pc' := 46) hC 66 rfl dX9_unwind_43 (by decide) (fun h2 => ?_) (fun h2 => ?_)
    · refine gx_aload_n (pc' := 67) hC rfl dX9_unwind_66 rfl ?_
      refine gx_iconst (v := (1 : Int32)) (pc' := 68) hC rfl dX9_unwind_67 (by decide) ?_
      refine gx_put (pc' := 71) hC tyX9_ok nmX9 0 (atM0 cI cZ a _) rfl inw_X9 25 (by decide) lk_X9_179 rfl rfl rfl (Nat.le_of_ble_eq_true rfl) (st S 30 25 (1 : Int32)) (ptM0_25 cI cZ a _ _) rfl dX9_unwind_68 ?_
      refine gx_iconst (v := (1 : Int32)) (pc' := 72) hC rfl dX9_unwind_71 (by decide) ?_
      refine gx_istore_n (pc' := 73) hC [(1, .int (1 : Int32)), (0, .ref (a 0))] rfl dX9_unwind_72 (by decide) rfl ?_
      exact gx_sub [(0, .ref (a 0)), (1, .int (1 : Int32))] [1, 0] rfl (g_X9_unwind_L73 hC 10000 (1 : Int32) (st S 30 25 (1 : Int32)))
    · refine gx_aload_n (pc' := 47) hC rfl dX9_unwind_46 rfl ?_
      refine gx_get (pc' := 50) hC 0 (atM0 cI cZ a _) rfl inw_X9 26 (by decide) lk_X9_56 rfl rfl dX9_unwind_47 ?_
      refine gx_iconst (v := (2 : Int32)) (pc' := 51) hC rfl dX9_unwind_50 (by decide) ?_
      refine gx_iload_n (pc' := 52) hC rfl dX9_unwind_51 rfl ?_
      refine gx_iadd (pc' := 53) hC rfl dX9_unwind_52 ?_
      refine gx_aload_n (pc' := 54) hC rfl dX9_unwind_53 rfl ?_
      refine gx_get (pc' := 57) hC 0 (atM0 cI cZ a _) rfl inw_X9 21 (by decide) lk_X9_47 rfl rfl dX9_unwind_54 ?_
      refine gx_iload_n (pc' := 58) hC rfl dX9_unwind_57 rfl ?_
      refine gx_iald (pc' := 59) hC 13 0 (atM13 cI cZ a _) rfl rfl dX9_unwind_58 ?_
      refine gx_iast (pc' := 60) hC 16 0 (atM16 cI cZ a _) rfl (st S 26 ((2 : Int32) + x1).toNatClampNeg (S 21 x1.toNatClampNeg)) (stM16 cI cZ a _ _ _) rfl dX9_unwind_59 ?_
      refine gx_iinc (v := (x1 + (1 : Int32))) (pc' := 63) hC [(1, .int (x1 + (1 : Int32))), (0, .ref (a 0))] rfl dX9_unwind_60 rfl rfl (by decide) rfl ?_
      refine gx_goto hC 41 dX9_unwind_63 (by decide) ?_
      exact gx_sub [(0, .ref (a 0)), (1, .int (x1 + (1 : Int32)))] [1, 0] rfl (ih (x1 + (1 : Int32)) (st S 26 ((2 : Int32) + x1).toNatClampNeg (S 21 x1.toNatClampNeg)))
set_option maxHeartbeats 4000000 in
set_option maxRecDepth 100000 in
theorem c_X9_unwind {l : Launch} {D : va_G} {tZ : Nat} (cI cZ cR : ClassId) (a : Nat → Nat)  (S : St) : MI l D (tyl cI cZ cR) tZ (wM cI cZ a) yX9_unwind cX9_unwind 2 (some .int) rm_X9_unwind [.ref (a 0)] S (m_X9_unwind  S) := by
  refine gx_metI (by decide) (Nat.le_of_ble_eq_true rfl) ?_
  intro p e s m below meth c A hC
  refine gx_sub [(0, .ref (a 0))] [0] rfl ?_
  rw [m_X9_unwind]
  refine gx_aload_n (pc' := 1) hC rfl dX9_unwind_0 rfl ?_
  refine gx_iconst (v := (0 : Int32)) (pc' := 2) hC rfl dX9_unwind_1 (by decide) ?_
  refine gx_put (pc' := 5) hC tyX9_ok nmX9 0 (atM0 cI cZ a _) rfl inw_X9 0 (by decide) lk_X9_59 rfl rfl rfl (Nat.le_of_ble_eq_true rfl) (st S 30 0 (0 : Int32)) (ptM0_0 cI cZ a _ _) rfl dX9_unwind_2 ?_
  refine gx_aload_n (pc' := 6) hC rfl dX9_unwind_5 rfl ?_
  refine gx_iconst (v := (0 : Int32)) (pc' := 7) hC rfl dX9_unwind_6 (by decide) ?_
  refine gx_put (pc' := 10) hC tyX9_ok nmX9 0 (atM0 cI cZ a _) rfl inw_X9 25 (by decide) lk_X9_179 rfl rfl rfl (Nat.le_of_ble_eq_true rfl) (st (st S 30 0 (0 : Int32)) 30 25 (0 : Int32)) (ptM0_25 cI cZ a _ _) rfl dX9_unwind_7 ?_
  refine gx_aload_n (pc' := 11) hC rfl dX9_unwind_10 rfl ?_
  refine gx_get (pc' := 14) hC 0 (atM0 cI cZ a _) rfl inw_X9 17 (by decide) lk_X9_63 rfl rfl dX9_unwind_11 ?_
  refine gx_if_ne (pc' := 17) hC 19 rfl dX9_unwind_14 (by decide) (fun h1 => ?_) (fun h1 => ?_)
  · refine gx_iconst (v := (-1 : Int32)) (pc' := 18) hC rfl dX9_unwind_17 (by decide) ?_
    exact gx_iret hC dX9_unwind_18
  · refine gx_aload_n (pc' := 20) hC rfl dX9_unwind_19 rfl ?_
    refine gx_get (pc' := 23) hC 0 (atM0 cI cZ a _) rfl inw_X9 26 (by decide) lk_X9_56 rfl rfl dX9_unwind_20 ?_
    refine gx_iconst (v := (0 : Int32)) (pc' := 24) hC rfl dX9_unwind_23 (by decide) ?_
    refine gx_aload_n (pc' := 25) hC rfl dX9_unwind_24 rfl ?_
    refine gx_get (pc' := 28) hC 0 (atM0 cI cZ a _) rfl inw_X9 18 (by decide) lk_X9_67 rfl rfl dX9_unwind_25 ?_
    refine gx_iast (pc' := 29) hC 16 0 (atM16 cI cZ a _) rfl (st (st (st S 30 0 (0 : Int32)) 30 25 (0 : Int32)) 26 (0 : Int32).toNatClampNeg ((st (st S 30 0 (0 : Int32)) 30 25 (0 : Int32)) 30 18)) (stM16 cI cZ a _ _ _) rfl dX9_unwind_28 ?_
    refine gx_aload_n (pc' := 30) hC rfl dX9_unwind_29 rfl ?_
    refine gx_get (pc' := 33) hC 0 (atM0 cI cZ a _) rfl inw_X9 26 (by decide) lk_X9_56 rfl rfl dX9_unwind_30 ?_
    refine gx_iconst (v := (1 : Int32)) (pc' := 34) hC rfl dX9_unwind_33 (by decide) ?_
    refine gx_aload_n (pc' := 35) hC rfl dX9_unwind_34 rfl ?_
    refine gx_get (pc' := 38) hC 0 (atM0 cI cZ a _) rfl inw_X9 19 (by decide) lk_X9_163 rfl rfl dX9_unwind_35 ?_
    refine gx_iast (pc' := 39) hC 16 0 (atM16 cI cZ a _) rfl (st (st (st (st S 30 0 (0 : Int32)) 30 25 (0 : Int32)) 26 (0 : Int32).toNatClampNeg ((st (st S 30 0 (0 : Int32)) 30 25 (0 : Int32)) 30 18)) 26 (1 : Int32).toNatClampNeg ((st (st (st S 30 0 (0 : Int32)) 30 25 (0 : Int32)) 26 (0 : Int32).toNatClampNeg ((st (st S 30 0 (0 : Int32)) 30 25 (0 : Int32)) 30 18)) 30 19)) (stM16 cI cZ a _ _ _) rfl dX9_unwind_38 ?_
    refine gx_iconst (v := (0 : Int32)) (pc' := 40) hC rfl dX9_unwind_39 (by decide) ?_
    refine gx_istore_n (pc' := 41) hC [(1, .int (0 : Int32)), (0, .ref (a 0))] rfl dX9_unwind_40 (by decide) rfl ?_
    exact gx_sub [(0, .ref (a 0)), (1, .int (0 : Int32))] [1, 0] rfl (g_X9_unwind_L41 hC 10000 (0 : Int32) (st (st (st (st S 30 0 (0 : Int32)) 30 25 (0 : Int32)) 26 (0 : Int32).toNatClampNeg ((st (st S 30 0 (0 : Int32)) 30 25 (0 : Int32)) 30 18)) 26 (1 : Int32).toNatClampNeg ((st (st (st S 30 0 (0 : Int32)) 30 25 (0 : Int32)) 26 (0 : Int32).toNatClampNeg ((st (st S 30 0 (0 : Int32)) 30 25 (0 : Int32)) 30 18)) 30 19)))
set_option maxHeartbeats 4000000 in
set_option maxRecDepth 100000 in
theorem c_X9_frame {l : Launch} {D : va_G} {tZ : Nat} (cI cZ cR : ClassId) (a : Nat → Nat) (x1 : Int32) (x2 : Int32) (S : St) : MI l D (tyl cI cZ cR) tZ (wM cI cZ a) yX9_frame cX9_frame 3 (some .int) rm_X9_frame [.ref (a 0), .int x1, .int x2] S (m_X9_frame x1 x2 S) := by
  refine gx_metI (by decide) (Nat.le_of_ble_eq_true rfl) ?_
  intro p e s m below meth c A hC
  refine gx_sub [(0, .ref (a 0)), (1, .int x1), (2, .int x2)] [0, 1, 2] rfl ?_
  rw [m_X9_frame]
  refine gx_aload_n (pc' := 1) hC rfl dX9_frame_0 rfl ?_
  refine gx_iconst (v := (0 : Int32)) (pc' := 2) hC rfl dX9_frame_1 (by decide) ?_
  refine gx_put (pc' := 5) hC tyX9_ok nmX9 0 (atM0 cI cZ a _) rfl inw_X9 0 (by decide) lk_X9_59 rfl rfl rfl (Nat.le_of_ble_eq_true rfl) (st S 30 0 (0 : Int32)) (ptM0_0 cI cZ a _ _) rfl dX9_frame_2 ?_
  refine gx_iload_n (pc' := 6) hC rfl dX9_frame_5 rfl ?_
  refine gx_if_lt (pc' := 9) hC 26 rfl dX9_frame_6 (by decide) (fun h1 => ?_) (fun h1 => ?_)
  · refine gx_iconst (v := (-1 : Int32)) (pc' := 27) hC rfl dX9_frame_26 (by decide) ?_
    refine gx_goto hC 40 dX9_frame_27 (by decide) ?_
    exact gx_iret hC dX9_frame_40
  · refine gx_iload_n (pc' := 10) hC rfl dX9_frame_9 rfl ?_
    refine gx_aload_n (pc' := 11) hC rfl dX9_frame_10 rfl ?_
    refine gx_get (pc' := 14) hC 0 (atM0 cI cZ a _) rfl inw_X9 25 (by decide) lk_X9_179 rfl rfl dX9_frame_11 ?_
    refine gx_icmp_ge (pc' := 17) hC 26 rfl dX9_frame_14 (by decide) (fun h2 => ?_) (fun h2 => ?_)
    · refine gx_iconst (v := (-1 : Int32)) (pc' := 27) hC rfl dX9_frame_26 (by decide) ?_
      refine gx_goto hC 40 dX9_frame_27 (by decide) ?_
      exact gx_iret hC dX9_frame_40
    · refine gx_iload_n (pc' := 18) hC rfl dX9_frame_17 rfl ?_
      refine gx_if_lt (pc' := 21) hC 26 rfl dX9_frame_18 (by decide) (fun h3 => ?_) (fun h3 => ?_)
      · refine gx_iconst (v := (-1 : Int32)) (pc' := 27) hC rfl dX9_frame_26 (by decide) ?_
        refine gx_goto hC 40 dX9_frame_27 (by decide) ?_
        exact gx_iret hC dX9_frame_40
      · refine gx_iload_n (pc' := 22) hC rfl dX9_frame_21 rfl ?_
        refine gx_iconst (v := (4 : Int32)) (pc' := 23) hC rfl dX9_frame_22 (by decide) ?_
        refine gx_icmp_le (pc' := 26) hC 30 rfl dX9_frame_23 (by decide) (fun h4 => ?_) (fun h4 => ?_)
        · refine gx_aload_n (pc' := 31) hC rfl dX9_frame_30 rfl ?_
          refine gx_get (pc' := 34) hC 0 (atM0 cI cZ a _) rfl inw_X9 26 (by decide) lk_X9_56 rfl rfl dX9_frame_31 ?_
          refine gx_iconst (v := (5 : Int32)) (pc' := 35) hC rfl dX9_frame_34 (by decide) ?_
          refine gx_iload_n (pc' := 36) hC rfl dX9_frame_35 rfl ?_
          refine gx_imul (pc' := 37) hC rfl dX9_frame_36 ?_
          refine gx_iload_n (pc' := 38) hC rfl dX9_frame_37 rfl ?_
          refine gx_iadd (pc' := 39) hC rfl dX9_frame_38 ?_
          refine gx_iald (pc' := 40) hC 16 0 (atM16 cI cZ a _) rfl rfl dX9_frame_39 ?_
          exact gx_iret hC dX9_frame_40
        · refine gx_iconst (v := (-1 : Int32)) (pc' := 27) hC rfl dX9_frame_26 (by decide) ?_
          refine gx_goto hC 40 dX9_frame_27 (by decide) ?_
          exact gx_iret hC dX9_frame_40
