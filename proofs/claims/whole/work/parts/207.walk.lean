set_option maxHeartbeats 4000000 in
set_option maxRecDepth 100000 in
theorem g_X9_packPlace_L320 {p : Program} {l : Launch} {e : Env} {s : State} {m : MethodId} {args : Array Value} {below : List Frame} {meth : Method} {c : Code} {D : va_G} {cI cZ cR : ClassId} {a : Nat → Nat} {tZ : Nat} {A : Nat → Prop} (hC : CX p s m args meth c cX9_packPlace 9 none yX9_packPlace.cls D (tyl cI cZ cR) tZ A) (k250 : Int32 → Int32 → Int32 → Int32 → St → Option (Int32 × St)) (hk250 : ∀ (x1 : Int32) (x3 : Int32) (x4 : Int32) (x7 : Int32) (S : St), GX p l e rm_X9_packPlace s m args below meth c 9 D A (wM cI cZ a) (KV below D (tyl cI cZ cR) (wM cI cZ a) A args s) 250 [(0, .ref (a 0)), (1, .int x1), (3, .int x3), (4, .int x4), (7, .int x7)] [] S (k250 x1 x3 x4 x7 S)) (x1 : Int32) (x3 : Int32) (x4 : Int32) (x7 : Int32) (x8 : Int32) (S : St) : GX p l e rm_X9_packPlace s m args below meth c 9 D A (wM cI cZ a) (KV below D (tyl cI cZ cR) (wM cI cZ a) A args s) 320 [(0, .ref (a 0)), (1, .int x1), (3, .int x3), (4, .int x4), (7, .int x7), (8, .int x8)] [] S (m_X9_packPlace_L320 k250 x1 x3 x4 x7 x8 S) := by
  rw [m_X9_packPlace_L320]
  refine gx_aload_n (pc' := 321) hC rfl dX9_packPlace_320 rfl ?_
  refine gx_get (pc' := 324) hC 0 (atM0 cI cZ a _) rfl inw_X9 14 (by decide) lk_X9_41 rfl rfl dX9_packPlace_321 ?_
  refine gx_iconst (v := (2 : Int32)) (pc' := 325) hC rfl dX9_packPlace_324 (by decide) ?_
  refine gx_iload (pc' := 327) hC rfl dX9_packPlace_325 rfl ?_
  refine gx_iadd (pc' := 328) hC rfl dX9_packPlace_327 ?_
  refine gx_iload (pc' := 330) hC rfl dX9_packPlace_328 rfl ?_
  refine gx_iast (pc' := 331) hC 11 0 (atM11 cI cZ a _) rfl (st S 14 ((2 : Int32) + x7).toNatClampNeg x8) (stM11 cI cZ a _ _ _) rfl dX9_packPlace_330 ?_
  refine gx_iinc (v := (x7 + (1 : Int32))) (pc' := 334) hC [(7, .int (x7 + (1 : Int32))), (0, .ref (a 0)), (1, .int x1), (3, .int x3), (4, .int x4), (8, .int x8)] rfl dX9_packPlace_331 rfl rfl (by decide) rfl ?_
  refine gx_goto hC 250 dX9_packPlace_334 (by decide) ?_
  exact gx_sub [(0, .ref (a 0)), (1, .int x1), (3, .int x3), (4, .int x4), (7, .int (x7 + (1 : Int32)))] [1, 2, 3, 4, 0] rfl (hk250 x1 x3 x4 (x7 + (1 : Int32)) (st S 14 ((2 : Int32) + x7).toNatClampNeg x8))
set_option maxHeartbeats 4000000 in
set_option maxRecDepth 100000 in
theorem g_X9_packPlace_L250 {p : Program} {l : Launch} {e : Env} {s : State} {m : MethodId} {args : Array Value} {below : List Frame} {meth : Method} {c : Code} {D : va_G} {cI cZ cR : ClassId} {a : Nat → Nat} {tZ : Nat} {A : Nat → Prop} (hC : CX p s m args meth c cX9_packPlace 9 none yX9_packPlace.cls D (tyl cI cZ cR) tZ A) : ∀ (n : Nat) (x1 : Int32) (x3 : Int32) (x4 : Int32) (x7 : Int32) (S : St), GX p l e rm_X9_packPlace s m args below meth c 9 D A (wM cI cZ a) (KV below D (tyl cI cZ cR) (wM cI cZ a) A args s) 250 [(0, .ref (a 0)), (1, .int x1), (3, .int x3), (4, .int x4), (7, .int x7)] [] S (m_X9_packPlace_L250 n x1 x3 x4 x7 S) := by
  intro n
  induction n with
  | zero => intro x1 x3 x4 x7 S; exact gx_none
  | succ n ih =>
    intro x1 x3 x4 x7 S
    rw [m_X9_packPlace_L250]
    refine gx_iload (pc' := 252) hC rfl dX9_packPlace_250 rfl ?_
    refine gx_iconst (v := (3 : Int32)) (pc' := 253) hC rfl dX9_packPlace_252 (by decide) ?_
    refine gx_icmp_ge (pc' := 256) hC 337 rfl dX9_packPlace_253 (by decide) (fun h15 => ?_) (fun h15 => ?_)
    · refine gx_aload_n (pc' := 338) hC rfl dX9_packPlace_337 rfl ?_
      refine gx_get (pc' := 341) hC 0 (atM0 cI cZ a _) rfl inw_X9 14 (by decide) lk_X9_41 rfl rfl dX9_packPlace_338 ?_
      refine gx_iconst (v := (0 : Int32)) (pc' := 342) hC rfl dX9_packPlace_341 (by decide) ?_
      refine gx_iload_n (pc' := 343) hC rfl dX9_packPlace_342 rfl ?_
      refine gx_iast (pc' := 344) hC 11 0 (atM11 cI cZ a _) rfl (st S 14 (0 : Int32).toNatClampNeg x3) (stM11 cI cZ a _ _ _) rfl dX9_packPlace_343 ?_
      refine gx_aload_n (pc' := 345) hC rfl dX9_packPlace_344 rfl ?_
      refine gx_get (pc' := 348) hC 0 (atM0 cI cZ a _) rfl inw_X9 14 (by decide) lk_X9_41 rfl rfl dX9_packPlace_345 ?_
      refine gx_iconst (v := (1 : Int32)) (pc' := 349) hC rfl dX9_packPlace_348 (by decide) ?_
      refine gx_iload (pc' := 351) hC rfl dX9_packPlace_349 rfl ?_
      refine gx_iast (pc' := 352) hC 11 0 (atM11 cI cZ a _) rfl (st (st S 14 (0 : Int32).toNatClampNeg x3) 14 (1 : Int32).toNatClampNeg x4) (stM11 cI cZ a _ _ _) rfl dX9_packPlace_351 ?_
      refine gx_aload_n (pc' := 353) hC rfl dX9_packPlace_352 rfl ?_
      refine gx_iload_n (pc' := 354) hC rfl dX9_packPlace_353 rfl ?_
      refine gx_put (pc' := 357) hC tyX9_ok nmX9 0 (atM0 cI cZ a _) rfl inw_X9 28 (by decide) lk_X9_131 rfl rfl rfl (Nat.le_of_ble_eq_true rfl) (st (st (st S 14 (0 : Int32).toNatClampNeg x3) 14 (1 : Int32).toNatClampNeg x4) 30 28 x1) (ptM0_28 cI cZ a _ _) rfl dX9_packPlace_354 ?_
      exact gx_vret hC dX9_packPlace_357
    · refine gx_aload_n (pc' := 257) hC rfl dX9_packPlace_256 rfl ?_
      refine gx_get (pc' := 260) hC 0 (atM0 cI cZ a _) rfl inw_X9 6 (by decide) lk_X9_19 rfl rfl dX9_packPlace_257 ?_
      refine gx_iconst (v := (5 : Int32)) (pc' := 261) hC rfl dX9_packPlace_260 (by decide) ?_
      refine gx_iload_n (pc' := 262) hC rfl dX9_packPlace_261 rfl ?_
      refine gx_imul (pc' := 263) hC rfl dX9_packPlace_262 ?_
      refine gx_iconst (v := (2 : Int32)) (pc' := 264) hC rfl dX9_packPlace_263 (by decide) ?_
      refine gx_iadd (pc' := 265) hC rfl dX9_packPlace_264 ?_
      refine gx_iload (pc' := 267) hC rfl dX9_packPlace_265 rfl ?_
      refine gx_iadd (pc' := 268) hC rfl dX9_packPlace_267 ?_
      refine gx_iald (pc' := 269) hC 4 0 (atM4 cI cZ a _) rfl rfl dX9_packPlace_268 ?_
      refine gx_istore (pc' := 271) hC [(8, .int (S 6 ((((5 : Int32) * x1) + (2 : Int32)) + x7).toNatClampNeg)), (0, .ref (a 0)), (1, .int x1), (3, .int x3), (4, .int x4), (7, .int x7)] rfl dX9_packPlace_269 (by decide) rfl ?_
      refine gx_aload_n (pc' := 272) hC rfl dX9_packPlace_271 rfl ?_
      refine gx_get (pc' := 275) hC 0 (atM0 cI cZ a _) rfl inw_X9 14 (by decide) lk_X9_41 rfl rfl dX9_packPlace_272 ?_
      refine gx_iconst (v := (2 : Int32)) (pc' := 276) hC rfl dX9_packPlace_275 (by decide) ?_
      refine gx_iload (pc' := 278) hC rfl dX9_packPlace_276 rfl ?_
      refine gx_iadd (pc' := 279) hC rfl dX9_packPlace_278 ?_
      refine gx_iald (pc' := 280) hC 11 0 (atM11 cI cZ a _) rfl rfl dX9_packPlace_279 ?_
      refine gx_iload (pc' := 282) hC rfl dX9_packPlace_280 rfl ?_
      refine gx_icmp_eq (pc' := 285) hC 320 rfl dX9_packPlace_282 (by decide) (fun h16 => ?_) (fun h16 => ?_)
      · exact gx_sub [(0, .ref (a 0)), (1, .int x1), (3, .int x3), (4, .int x4), (7, .int x7), (8, .int (S 6 ((((5 : Int32) * x1) + (2 : Int32)) + x7).toNatClampNeg))] [1, 2, 3, 4, 5, 0] rfl (g_X9_packPlace_L320 hC (m_X9_packPlace_L250 n) ih x1 x3 x4 x7 (S 6 ((((5 : Int32) * x1) + (2 : Int32)) + x7).toNatClampNeg) S)
      · refine gx_aload_n (pc' := 286) hC rfl dX9_packPlace_285 rfl ?_
        refine gx_iload (pc' := 288) hC rfl dX9_packPlace_286 rfl ?_
        refine gx_if_le (pc' := 291) hC 300 rfl dX9_packPlace_288 (by decide) (fun h17 => ?_) (fun h17 => ?_)
        · refine gx_sipush (v := (192 : Int32)) (pc' := 303) hC rfl dX9_packPlace_300 (by decide) ?_
          refine gx_iload (pc' := 305) hC rfl dX9_packPlace_303 rfl ?_
          refine gx_iadd (pc' := 306) hC rfl dX9_packPlace_305 ?_
          refine gx_callVV (pc' := 309) hC (c_X9_put cI cZ cR a ((192 : Int32) + x7) _) 0 (atM0 cI cZ a _) rfl kw_X9_127 hy_X9_put ⟨rfl, rfl⟩ (by decide) rfl rfl (Nat.le_of_ble_eq_true rfl) rfl dX9_packPlace_306 (fun r7 => ?_)
          refine gx_iload (pc' := 311) hC rfl dX9_packPlace_309 rfl ?_
          refine gx_if_le (pc' := 314) hC 320 rfl dX9_packPlace_311 (by decide) (fun h18 => ?_) (fun h18 => ?_)
          · exact gx_sub [(0, .ref (a 0)), (1, .int x1), (3, .int x3), (4, .int x4), (7, .int x7), (8, .int (S 6 ((((5 : Int32) * x1) + (2 : Int32)) + x7).toNatClampNeg))] [1, 2, 3, 4, 5, 0] rfl (g_X9_packPlace_L320 hC (m_X9_packPlace_L250 n) ih x1 x3 x4 x7 (S 6 ((((5 : Int32) * x1) + (2 : Int32)) + x7).toNatClampNeg) r7.2)
          · refine gx_aload_n (pc' := 315) hC rfl dX9_packPlace_314 rfl ?_
            refine gx_iload (pc' := 317) hC rfl dX9_packPlace_315 rfl ?_
            refine gx_callVV (pc' := 320) hC (c_X9_put cI cZ cR a (S 6 ((((5 : Int32) * x1) + (2 : Int32)) + x7).toNatClampNeg) _) 0 (atM0 cI cZ a _) rfl kw_X9_127 hy_X9_put ⟨rfl, rfl⟩ (by decide) rfl rfl (Nat.le_of_ble_eq_true rfl) rfl dX9_packPlace_317 (fun r8 => ?_)
            exact gx_sub [(0, .ref (a 0)), (1, .int x1), (3, .int x3), (4, .int x4), (7, .int x7), (8, .int (S 6 ((((5 : Int32) * x1) + (2 : Int32)) + x7).toNatClampNeg))] [1, 2, 3, 4, 5, 0] rfl (g_X9_packPlace_L320 hC (m_X9_packPlace_L250 n) ih x1 x3 x4 x7 (S 6 ((((5 : Int32) * x1) + (2 : Int32)) + x7).toNatClampNeg) r8.2)
        · refine gx_sipush (v := (128 : Int32)) (pc' := 294) hC rfl dX9_packPlace_291 (by decide) ?_
          refine gx_iload (pc' := 296) hC rfl dX9_packPlace_294 rfl ?_
          refine gx_iadd (pc' := 297) hC rfl dX9_packPlace_296 ?_
          refine gx_goto hC 306 dX9_packPlace_297 (by decide) ?_
          refine gx_callVV (pc' := 309) hC (c_X9_put cI cZ cR a ((128 : Int32) + x7) _) 0 (atM0 cI cZ a _) rfl kw_X9_127 hy_X9_put ⟨rfl, rfl⟩ (by decide) rfl rfl (Nat.le_of_ble_eq_true rfl) rfl dX9_packPlace_306 (fun r9 => ?_)
          refine gx_iload (pc' := 311) hC rfl dX9_packPlace_309 rfl ?_
          refine gx_if_le (pc' := 314) hC 320 rfl dX9_packPlace_311 (by decide) (fun h19 => ?_) (fun h19 => ?_)
          · exact gx_sub [(0, .ref (a 0)), (1, .int x1), (3, .int x3), (4, .int x4), (7, .int x7), (8, .int (S 6 ((((5 : Int32) * x1) + (2 : Int32)) + x7).toNatClampNeg))] [1, 2, 3, 4, 5, 0] rfl (g_X9_packPlace_L320 hC (m_X9_packPlace_L250 n) ih x1 x3 x4 x7 (S 6 ((((5 : Int32) * x1) + (2 : Int32)) + x7).toNatClampNeg) r9.2)
          · refine gx_aload_n (pc' := 315) hC rfl dX9_packPlace_314 rfl ?_
            refine gx_iload (pc' := 317) hC rfl dX9_packPlace_315 rfl ?_
            refine gx_callVV (pc' := 320) hC (c_X9_put cI cZ cR a (S 6 ((((5 : Int32) * x1) + (2 : Int32)) + x7).toNatClampNeg) _) 0 (atM0 cI cZ a _) rfl kw_X9_127 hy_X9_put ⟨rfl, rfl⟩ (by decide) rfl rfl (Nat.le_of_ble_eq_true rfl) rfl dX9_packPlace_317 (fun r10 => ?_)
            exact gx_sub [(0, .ref (a 0)), (1, .int x1), (3, .int x3), (4, .int x4), (7, .int x7), (8, .int (S 6 ((((5 : Int32) * x1) + (2 : Int32)) + x7).toNatClampNeg))] [1, 2, 3, 4, 5, 0] rfl (g_X9_packPlace_L320 hC (m_X9_packPlace_L250 n) ih x1 x3 x4 x7 (S 6 ((((5 : Int32) * x1) + (2 : Int32)) + x7).toNatClampNeg) r10.2)
set_option maxHeartbeats 4000000 in
set_option maxRecDepth 100000 in
theorem g_X9_packPlace_L196 {p : Program} {l : Launch} {e : Env} {s : State} {m : MethodId} {args : Array Value} {below : List Frame} {meth : Method} {c : Code} {D : va_G} {cI cZ cR : ClassId} {a : Nat → Nat} {tZ : Nat} {A : Nat → Prop} (hC : CX p s m args meth c cX9_packPlace 9 none yX9_packPlace.cls D (tyl cI cZ cR) tZ A) (x1 : Int32) (x3 : Int32) (x4 : Int32) (z1 : Int32) (S : St) : GX p l e rm_X9_packPlace s m args below meth c 9 D A (wM cI cZ a) (KV below D (tyl cI cZ cR) (wM cI cZ a) A args s) 196 [(0, .ref (a 0)), (1, .int x1), (3, .int x3), (4, .int x4)] [.int z1, .ref (a 0)] S (m_X9_packPlace_L196 x1 x3 x4 z1 S) := by
  rw [m_X9_packPlace_L196]
  refine gx_callVV (pc' := 199) hC (c_X9_put cI cZ cR a z1 _) 0 (atM0 cI cZ a _) rfl kw_X9_127 hy_X9_put ⟨rfl, rfl⟩ (by decide) rfl rfl (Nat.le_of_ble_eq_true rfl) rfl dX9_packPlace_196 (fun r11 => ?_)
  refine gx_aload_n (pc' := 200) hC rfl dX9_packPlace_199 rfl ?_
  refine gx_iload_n (pc' := 201) hC rfl dX9_packPlace_200 rfl ?_
  refine gx_callVV (pc' := 204) hC (c_X9_put cI cZ cR a x3 _) 0 (atM0 cI cZ a _) rfl kw_X9_127 hy_X9_put ⟨rfl, rfl⟩ (by decide) rfl rfl (Nat.le_of_ble_eq_true rfl) rfl dX9_packPlace_201 (fun r12 => ?_)
  refine gx_aload_n (pc' := 205) hC rfl dX9_packPlace_204 rfl ?_
  refine gx_get (pc' := 208) hC 0 (atM0 cI cZ a _) rfl inw_X9 14 (by decide) lk_X9_41 rfl rfl dX9_packPlace_205 ?_
  refine gx_iconst (v := (1 : Int32)) (pc' := 209) hC rfl dX9_packPlace_208 (by decide) ?_
  refine gx_iald (pc' := 210) hC 11 0 (atM11 cI cZ a _) rfl rfl dX9_packPlace_209 ?_
  refine gx_iload (pc' := 212) hC rfl dX9_packPlace_210 rfl ?_
  refine gx_icmp_eq (pc' := 215) hC 247 rfl dX9_packPlace_212 (by decide) (fun h20 => ?_) (fun h20 => ?_)
  · refine gx_iconst (v := (0 : Int32)) (pc' := 248) hC rfl dX9_packPlace_247 (by decide) ?_
    refine gx_istore (pc' := 250) hC [(7, .int (0 : Int32)), (0, .ref (a 0)), (1, .int x1), (3, .int x3), (4, .int x4)] rfl dX9_packPlace_248 (by decide) rfl ?_
    exact gx_sub [(0, .ref (a 0)), (1, .int x1), (3, .int x3), (4, .int x4), (7, .int (0 : Int32))] [1, 2, 3, 4, 0] rfl (g_X9_packPlace_L250 hC 10000 x1 x3 x4 (0 : Int32) r12.2)
  · refine gx_aload_n (pc' := 216) hC rfl dX9_packPlace_215 rfl ?_
    refine gx_iload (pc' := 218) hC rfl dX9_packPlace_216 rfl ?_
    refine gx_callVV (pc' := 221) hC (c_X9_put cI cZ cR a x4 _) 0 (atM0 cI cZ a _) rfl kw_X9_127 hy_X9_put ⟨rfl, rfl⟩ (by decide) rfl rfl (Nat.le_of_ble_eq_true rfl) rfl dX9_packPlace_218 (fun r13 => ?_)
    refine gx_goto hC 247 dX9_packPlace_221 (by decide) ?_
    refine gx_iconst (v := (0 : Int32)) (pc' := 248) hC rfl dX9_packPlace_247 (by decide) ?_
    refine gx_istore (pc' := 250) hC [(7, .int (0 : Int32)), (0, .ref (a 0)), (1, .int x1), (3, .int x3), (4, .int x4)] rfl dX9_packPlace_248 (by decide) rfl ?_
    exact gx_sub [(0, .ref (a 0)), (1, .int x1), (3, .int x3), (4, .int x4), (7, .int (0 : Int32))] [1, 2, 3, 4, 0] rfl (g_X9_packPlace_L250 hC 10000 x1 x3 x4 (0 : Int32) r13.2)
set_option maxHeartbeats 4000000 in
set_option maxRecDepth 100000 in
theorem g_X9_packPlace_L167 {p : Program} {l : Launch} {e : Env} {s : State} {m : MethodId} {args : Array Value} {below : List Frame} {meth : Method} {c : Code} {D : va_G} {cI cZ cR : ClassId} {a : Nat → Nat} {tZ : Nat} {A : Nat → Prop} (hC : CX p s m args meth c cX9_packPlace 9 none yX9_packPlace.cls D (tyl cI cZ cR) tZ A) (x1 : Int32) (x3 : Int32) (x4 : Int32) (S : St) : GX p l e rm_X9_packPlace s m args below meth c 9 D A (wM cI cZ a) (KV below D (tyl cI cZ cR) (wM cI cZ a) A args s) 167 [(0, .ref (a 0)), (1, .int x1), (3, .int x3), (4, .int x4)] [] S (m_X9_packPlace_L167 x1 x3 x4 S) := by
  rw [m_X9_packPlace_L167]
  refine gx_aload_n (pc' := 168) hC rfl dX9_packPlace_167 rfl ?_
  refine gx_get (pc' := 171) hC 0 (atM0 cI cZ a _) rfl inw_X9 14 (by decide) lk_X9_41 rfl rfl dX9_packPlace_168 ?_
  refine gx_iconst (v := (0 : Int32)) (pc' := 172) hC rfl dX9_packPlace_171 (by decide) ?_
  refine gx_iald (pc' := 173) hC 11 0 (atM11 cI cZ a _) rfl rfl dX9_packPlace_172 ?_
  refine gx_iload_n (pc' := 174) hC rfl dX9_packPlace_173 rfl ?_
  refine gx_icmp_eq (pc' := 177) hC 224 rfl dX9_packPlace_174 (by decide) (fun h12 => ?_) (fun h12 => ?_)
  · refine gx_aload_n (pc' := 225) hC rfl dX9_packPlace_224 rfl ?_
    refine gx_get (pc' := 228) hC 0 (atM0 cI cZ a _) rfl inw_X9 14 (by decide) lk_X9_41 rfl rfl dX9_packPlace_225 ?_
    refine gx_iconst (v := (1 : Int32)) (pc' := 229) hC rfl dX9_packPlace_228 (by decide) ?_
    refine gx_iald (pc' := 230) hC 11 0 (atM11 cI cZ a _) rfl rfl dX9_packPlace_229 ?_
    refine gx_iload (pc' := 232) hC rfl dX9_packPlace_230 rfl ?_
    refine gx_icmp_eq (pc' := 235) hC 247 rfl dX9_packPlace_232 (by decide) (fun h13 => ?_) (fun h13 => ?_)
    · refine gx_iconst (v := (0 : Int32)) (pc' := 248) hC rfl dX9_packPlace_247 (by decide) ?_
      refine gx_istore (pc' := 250) hC [(7, .int (0 : Int32)), (0, .ref (a 0)), (1, .int x1), (3, .int x3), (4, .int x4)] rfl dX9_packPlace_248 (by decide) rfl ?_
      exact gx_sub [(0, .ref (a 0)), (1, .int x1), (3, .int x3), (4, .int x4), (7, .int (0 : Int32))] [1, 2, 3, 4, 0] rfl (g_X9_packPlace_L250 hC 10000 x1 x3 x4 (0 : Int32) S)
    · refine gx_aload_n (pc' := 236) hC rfl dX9_packPlace_235 rfl ?_
      refine gx_bipush (v := (14 : Int32)) (pc' := 238) hC rfl dX9_packPlace_236 (by decide) ?_
      refine gx_callVV (pc' := 241) hC (c_X9_put cI cZ cR a (14 : Int32) _) 0 (atM0 cI cZ a _) rfl kw_X9_127 hy_X9_put ⟨rfl, rfl⟩ (by decide) rfl rfl (Nat.le_of_ble_eq_true rfl) rfl dX9_packPlace_238 (fun r5 => ?_)
      refine gx_aload_n (pc' := 242) hC rfl dX9_packPlace_241 rfl ?_
      refine gx_iload (pc' := 244) hC rfl dX9_packPlace_242 rfl ?_
      refine gx_callVV (pc' := 247) hC (c_X9_put cI cZ cR a x4 _) 0 (atM0 cI cZ a _) rfl kw_X9_127 hy_X9_put ⟨rfl, rfl⟩ (by decide) rfl rfl (Nat.le_of_ble_eq_true rfl) rfl dX9_packPlace_244 (fun r6 => ?_)
      refine gx_iconst (v := (0 : Int32)) (pc' := 248) hC rfl dX9_packPlace_247 (by decide) ?_
      refine gx_istore (pc' := 250) hC [(7, .int (0 : Int32)), (0, .ref (a 0)), (1, .int x1), (3, .int x3), (4, .int x4)] rfl dX9_packPlace_248 (by decide) rfl ?_
      exact gx_sub [(0, .ref (a 0)), (1, .int x1), (3, .int x3), (4, .int x4), (7, .int (0 : Int32))] [1, 2, 3, 4, 0] rfl (g_X9_packPlace_L250 hC 10000 x1 x3 x4 (0 : Int32) r6.2)
  · refine gx_aload_n (pc' := 178) hC rfl dX9_packPlace_177 rfl ?_
    refine gx_aload_n (pc' := 179) hC rfl dX9_packPlace_178 rfl ?_
    refine gx_get (pc' := 182) hC 0 (atM0 cI cZ a _) rfl inw_X9 14 (by decide) lk_X9_41 rfl rfl dX9_packPlace_179 ?_
    refine gx_iconst (v := (1 : Int32)) (pc' := 183) hC rfl dX9_packPlace_182 (by decide) ?_
    refine gx_iald (pc' := 184) hC 11 0 (atM11 cI cZ a _) rfl rfl dX9_packPlace_183 ?_
    refine gx_iload (pc' := 186) hC rfl dX9_packPlace_184 rfl ?_
    refine gx_icmp_eq (pc' := 189) hC 194 rfl dX9_packPlace_186 (by decide) (fun h14 => ?_) (fun h14 => ?_)
    · refine gx_bipush (v := (13 : Int32)) (pc' := 196) hC rfl dX9_packPlace_194 (by decide) ?_
      exact gx_sub [(0, .ref (a 0)), (1, .int x1), (3, .int x3), (4, .int x4)] [0, 1, 2, 3] rfl (g_X9_packPlace_L196 hC x1 x3 x4 (13 : Int32) S)
    · refine gx_bipush (v := (12 : Int32)) (pc' := 191) hC rfl dX9_packPlace_189 (by decide) ?_
      refine gx_goto hC 196 dX9_packPlace_191 (by decide) ?_
      exact gx_sub [(0, .ref (a 0)), (1, .int x1), (3, .int x3), (4, .int x4)] [0, 1, 2, 3] rfl (g_X9_packPlace_L196 hC x1 x3 x4 (12 : Int32) S)
set_option maxHeartbeats 4000000 in
set_option maxRecDepth 100000 in
theorem g_X9_packPlace_L78 {p : Program} {l : Launch} {e : Env} {s : State} {m : MethodId} {args : Array Value} {below : List Frame} {meth : Method} {c : Code} {D : va_G} {cI cZ cR : ClassId} {a : Nat → Nat} {tZ : Nat} {A : Nat → Prop} (hC : CX p s m args meth c cX9_packPlace 9 none yX9_packPlace.cls D (tyl cI cZ cR) tZ A) : ∀ (n : Nat) (x1 : Int32) (x2 : Int32) (x3 : Int32) (x4 : Int32) (x5 : Int32) (x6 : Int32) (S : St), GX p l e rm_X9_packPlace s m args below meth c 9 D A (wM cI cZ a) (KV below D (tyl cI cZ cR) (wM cI cZ a) A args s) 78 [(0, .ref (a 0)), (1, .int x1), (2, .int x2), (3, .int x3), (4, .int x4), (5, .int x5), (6, .int x6)] [] S (m_X9_packPlace_L78 n x1 x2 x3 x4 x5 x6 S) := by
  intro n
  induction n with
  | zero => intro x1 x2 x3 x4 x5 x6 S; exact gx_none
  | succ n ih =>
    intro x1 x2 x3 x4 x5 x6 S
    rw [m_X9_packPlace_L78]
    refine gx_iload (pc' := 80) hC rfl dX9_packPlace_78 rfl ?_
    refine gx_iconst (v := (5 : Int32)) (pc' := 81) hC rfl dX9_packPlace_80 (by decide) ?_
    refine gx_icmp_ge (pc' := 84) hC 123 rfl dX9_packPlace_81 (by decide) (fun h5 => ?_) (fun h5 => ?_)
    · refine gx_iload (pc' := 125) hC rfl dX9_packPlace_123 rfl ?_
      refine gx_if_eq (pc' := 128) hC 129 rfl dX9_packPlace_125 (by decide) (fun h6 => ?_) (fun h6 => ?_)
      · refine gx_iload_n (pc' := 130) hC rfl dX9_packPlace_129 rfl ?_
        refine gx_iload_n (pc' := 131) hC rfl dX9_packPlace_130 rfl ?_
        refine gx_isub (pc' := 132) hC rfl dX9_packPlace_131 ?_
        refine gx_istore (pc' := 134) hC [(6, .int (x1 - x2)), (0, .ref (a 0)), (1, .int x1), (2, .int x2), (3, .int x3), (4, .int x4), (5, .int x5)] rfl dX9_packPlace_132 (by decide) rfl ?_
        refine gx_aload_n (pc' := 135) hC rfl dX9_packPlace_134 rfl ?_
        refine gx_iload (pc' := 137) hC rfl dX9_packPlace_135 rfl ?_
        refine gx_bipush (v := (64 : Int32)) (pc' := 139) hC rfl dX9_packPlace_137 (by decide) ?_
        refine gx_icmp_ge (pc' := 142) hC 150 rfl dX9_packPlace_139 (by decide) (fun h7 => ?_) (fun h7 => ?_)
        · refine gx_iconst (v := (2 : Int32)) (pc' := 151) hC rfl dX9_packPlace_150 (by decide) ?_
          refine gx_callVV (pc' := 154) hC (c_X9_put cI cZ cR a (2 : Int32) _) 0 (atM0 cI cZ a _) rfl kw_X9_127 hy_X9_put ⟨rfl, rfl⟩ (by decide) rfl rfl (Nat.le_of_ble_eq_true rfl) rfl dX9_packPlace_151 (fun r1 => ?_)
          refine gx_iload (pc' := 156) hC rfl dX9_packPlace_154 rfl ?_
          refine gx_bipush (v := (63 : Int32)) (pc' := 158) hC rfl dX9_packPlace_156 (by decide) ?_
          refine gx_icmp_le (pc' := 161) hC 167 rfl dX9_packPlace_158 (by decide) (fun h8 => ?_) (fun h8 => ?_)
          · exact gx_sub [(0, .ref (a 0)), (1, .int x1), (3, .int x3), (4, .int x4)] [1, 2, 4, 5] rfl (g_X9_packPlace_L167 hC x1 x3 x4 r1.2)
          · refine gx_aload_n (pc' := 162) hC rfl dX9_packPlace_161 rfl ?_
            refine gx_iload (pc' := 164) hC rfl dX9_packPlace_162 rfl ?_
            refine gx_callVV (pc' := 167) hC (c_X9_put cI cZ cR a (x1 - x2) _) 0 (atM0 cI cZ a _) rfl kw_X9_127 hy_X9_put ⟨rfl, rfl⟩ (by decide) rfl rfl (Nat.le_of_ble_eq_true rfl) rfl dX9_packPlace_164 (fun r2 => ?_)
            exact gx_sub [(0, .ref (a 0)), (1, .int x1), (3, .int x3), (4, .int x4)] [1, 2, 4, 5] rfl (g_X9_packPlace_L167 hC x1 x3 x4 r2.2)
        · refine gx_bipush (v := (64 : Int32)) (pc' := 144) hC rfl dX9_packPlace_142 (by decide) ?_
          refine gx_iload (pc' := 146) hC rfl dX9_packPlace_144 rfl ?_
          refine gx_iadd (pc' := 147) hC rfl dX9_packPlace_146 ?_
          refine gx_goto hC 151 dX9_packPlace_147 (by decide) ?_
          refine gx_callVV (pc' := 154) hC (c_X9_put cI cZ cR a ((64 : Int32) + (x1 - x2)) _) 0 (atM0 cI cZ a _) rfl kw_X9_127 hy_X9_put ⟨rfl, rfl⟩ (by decide) rfl rfl (Nat.le_of_ble_eq_true rfl) rfl dX9_packPlace_151 (fun r3 => ?_)
          refine gx_iload (pc' := 156) hC rfl dX9_packPlace_154 rfl ?_
          refine gx_bipush (v := (63 : Int32)) (pc' := 158) hC rfl dX9_packPlace_156 (by decide) ?_
          refine gx_icmp_le (pc' := 161) hC 167 rfl dX9_packPlace_158 (by decide) (fun h9 => ?_) (fun h9 => ?_)
          · exact gx_sub [(0, .ref (a 0)), (1, .int x1), (3, .int x3), (4, .int x4)] [1, 2, 4, 5] rfl (g_X9_packPlace_L167 hC x1 x3 x4 r3.2)
          · refine gx_aload_n (pc' := 162) hC rfl dX9_packPlace_161 rfl ?_
            refine gx_iload (pc' := 164) hC rfl dX9_packPlace_162 rfl ?_
            refine gx_callVV (pc' := 167) hC (c_X9_put cI cZ cR a (x1 - x2) _) 0 (atM0 cI cZ a _) rfl kw_X9_127 hy_X9_put ⟨rfl, rfl⟩ (by decide) rfl rfl (Nat.le_of_ble_eq_true rfl) rfl dX9_packPlace_164 (fun r4 => ?_)
            exact gx_sub [(0, .ref (a 0)), (1, .int x1), (3, .int x3), (4, .int x4)] [1, 2, 4, 5] rfl (g_X9_packPlace_L167 hC x1 x3 x4 r4.2)
      · exact gx_vret hC dX9_packPlace_128
    · refine gx_iload (pc' := 86) hC rfl dX9_packPlace_84 rfl ?_
      refine gx_if_eq (pc' := 89) hC 114 rfl dX9_packPlace_86 (by decide) (fun h10 => ?_) (fun h10 => ?_)
      · refine gx_iconst (v := (0 : Int32)) (pc' := 115) hC rfl dX9_packPlace_114 (by decide) ?_
        refine gx_istore (pc' := 117) hC [(5, .int (0 : Int32)), (0, .ref (a 0)), (1, .int x1), (2, .int x2), (3, .int x3), (4, .int x4), (6, .int x6)] rfl dX9_packPlace_115 (by decide) rfl ?_
        refine gx_iinc (v := (x6 + (1 : Int32))) (pc' := 120) hC [(6, .int (x6 + (1 : Int32))), (5, .int (0 : Int32)), (0, .ref (a 0)), (1, .int x1), (2, .int x2), (3, .int x3), (4, .int x4)] rfl dX9_packPlace_117 rfl rfl (by decide) rfl ?_
        refine gx_goto hC 78 dX9_packPlace_120 (by decide) ?_
        exact gx_sub [(0, .ref (a 0)), (1, .int x1), (2, .int x2), (3, .int x3), (4, .int x4), (5, .int (0 : Int32)), (6, .int (x6 + (1 : Int32)))] [2, 3, 4, 5, 6, 1, 0] rfl (ih x1 x2 x3 x4 (0 : Int32) (x6 + (1 : Int32)) S)
      · refine gx_aload_n (pc' := 90) hC rfl dX9_packPlace_89 rfl ?_
        refine gx_get (pc' := 93) hC 0 (atM0 cI cZ a _) rfl inw_X9 14 (by decide) lk_X9_41 rfl rfl dX9_packPlace_90 ?_
        refine gx_iload (pc' := 95) hC rfl dX9_packPlace_93 rfl ?_
        refine gx_iald (pc' := 96) hC 11 0 (atM11 cI cZ a _) rfl rfl dX9_packPlace_95 ?_
        refine gx_aload_n (pc' := 97) hC rfl dX9_packPlace_96 rfl ?_
        refine gx_get (pc' := 100) hC 0 (atM0 cI cZ a _) rfl inw_X9 6 (by decide) lk_X9_19 rfl rfl dX9_packPlace_97 ?_
        refine gx_iconst (v := (5 : Int32)) (pc' := 101) hC rfl dX9_packPlace_100 (by decide) ?_
        refine gx_iload_n (pc' := 102) hC rfl dX9_packPlace_101 rfl ?_
        refine gx_imul (pc' := 103) hC rfl dX9_packPlace_102 ?_
        refine gx_iload (pc' := 105) hC rfl dX9_packPlace_103 rfl ?_
        refine gx_iadd (pc' := 106) hC rfl dX9_packPlace_105 ?_
        refine gx_iald (pc' := 107) hC 4 0 (atM4 cI cZ a _) rfl rfl dX9_packPlace_106 ?_
        refine gx_icmp_ne (pc' := 110) hC 114 rfl dX9_packPlace_107 (by decide) (fun h11 => ?_) (fun h11 => ?_)
        · refine gx_iconst (v := (1 : Int32)) (pc' := 111) hC rfl dX9_packPlace_110 (by decide) ?_
          refine gx_goto hC 115 dX9_packPlace_111 (by decide) ?_
          refine gx_istore (pc' := 117) hC [(5, .int (1 : Int32)), (0, .ref (a 0)), (1, .int x1), (2, .int x2), (3, .int x3), (4, .int x4), (6, .int x6)] rfl dX9_packPlace_115 (by decide) rfl ?_
          refine gx_iinc (v := (x6 + (1 : Int32))) (pc' := 120) hC [(6, .int (x6 + (1 : Int32))), (5, .int (1 : Int32)), (0, .ref (a 0)), (1, .int x1), (2, .int x2), (3, .int x3), (4, .int x4)] rfl dX9_packPlace_117 rfl rfl (by decide) rfl ?_
          refine gx_goto hC 78 dX9_packPlace_120 (by decide) ?_
          exact gx_sub [(0, .ref (a 0)), (1, .int x1), (2, .int x2), (3, .int x3), (4, .int x4), (5, .int (1 : Int32)), (6, .int (x6 + (1 : Int32)))] [2, 3, 4, 5, 6, 1, 0] rfl (ih x1 x2 x3 x4 (1 : Int32) (x6 + (1 : Int32)) S)
        · refine gx_iconst (v := (0 : Int32)) (pc' := 115) hC rfl dX9_packPlace_114 (by decide) ?_
          refine gx_istore (pc' := 117) hC [(5, .int (0 : Int32)), (0, .ref (a 0)), (1, .int x1), (2, .int x2), (3, .int x3), (4, .int x4), (6, .int x6)] rfl dX9_packPlace_115 (by decide) rfl ?_
          refine gx_iinc (v := (x6 + (1 : Int32))) (pc' := 120) hC [(6, .int (x6 + (1 : Int32))), (5, .int (0 : Int32)), (0, .ref (a 0)), (1, .int x1), (2, .int x2), (3, .int x3), (4, .int x4)] rfl dX9_packPlace_117 rfl rfl (by decide) rfl ?_
          refine gx_goto hC 78 dX9_packPlace_120 (by decide) ?_
          exact gx_sub [(0, .ref (a 0)), (1, .int x1), (2, .int x2), (3, .int x3), (4, .int x4), (5, .int (0 : Int32)), (6, .int (x6 + (1 : Int32)))] [2, 3, 4, 5, 6, 1, 0] rfl (ih x1 x2 x3 x4 (0 : Int32) (x6 + (1 : Int32)) S)
set_option maxHeartbeats 4000000 in
set_option maxRecDepth 100000 in
theorem g_X9_packPlace_L45 {p : Program} {l : Launch} {e : Env} {s : State} {m : MethodId} {args : Array Value} {below : List Frame} {meth : Method} {c : Code} {D : va_G} {cI cZ cR : ClassId} {a : Nat → Nat} {tZ : Nat} {A : Nat → Prop} (hC : CX p s m args meth c cX9_packPlace 9 none yX9_packPlace.cls D (tyl cI cZ cR) tZ A) (x1 : Int32) (x2 : Int32) (x3 : Int32) (z0 : Int32) (S : St) : GX p l e rm_X9_packPlace s m args below meth c 9 D A (wM cI cZ a) (KV below D (tyl cI cZ cR) (wM cI cZ a) A args s) 45 [(0, .ref (a 0)), (1, .int x1), (2, .int x2), (3, .int x3)] [.int z0] S (m_X9_packPlace_L45 x1 x2 x3 z0 S) := by
  rw [m_X9_packPlace_L45]
  refine gx_istore (pc' := 47) hC [(4, .int z0), (0, .ref (a 0)), (1, .int x1), (2, .int x2), (3, .int x3)] rfl dX9_packPlace_45 (by decide) rfl ?_
  refine gx_aload_n (pc' := 48) hC rfl dX9_packPlace_47 rfl ?_
  refine gx_get (pc' := 51) hC 0 (atM0 cI cZ a _) rfl inw_X9 14 (by decide) lk_X9_41 rfl rfl dX9_packPlace_48 ?_
  refine gx_iconst (v := (0 : Int32)) (pc' := 52) hC rfl dX9_packPlace_51 (by decide) ?_
  refine gx_iald (pc' := 53) hC 11 0 (atM11 cI cZ a _) rfl rfl dX9_packPlace_52 ?_
  refine gx_iload_n (pc' := 54) hC rfl dX9_packPlace_53 rfl ?_
  refine gx_icmp_ne (pc' := 57) hC 72 rfl dX9_packPlace_54 (by decide) (fun h3 => ?_) (fun h3 => ?_)
  · refine gx_aload_n (pc' := 58) hC rfl dX9_packPlace_57 rfl ?_
    refine gx_get (pc' := 61) hC 0 (atM0 cI cZ a _) rfl inw_X9 14 (by decide) lk_X9_41 rfl rfl dX9_packPlace_58 ?_
    refine gx_iconst (v := (1 : Int32)) (pc' := 62) hC rfl dX9_packPlace_61 (by decide) ?_
    refine gx_iald (pc' := 63) hC 11 0 (atM11 cI cZ a _) rfl rfl dX9_packPlace_62 ?_
    refine gx_iload (pc' := 65) hC rfl dX9_packPlace_63 rfl ?_
    refine gx_icmp_ne (pc' := 68) hC 72 rfl dX9_packPlace_65 (by decide) (fun h4 => ?_) (fun h4 => ?_)
    · refine gx_iconst (v := (1 : Int32)) (pc' := 69) hC rfl dX9_packPlace_68 (by decide) ?_
      refine gx_goto hC 73 dX9_packPlace_69 (by decide) ?_
      refine gx_istore (pc' := 75) hC [(5, .int (1 : Int32)), (4, .int z0), (0, .ref (a 0)), (1, .int x1), (2, .int x2), (3, .int x3)] rfl dX9_packPlace_73 (by decide) rfl ?_
      refine gx_iconst (v := (2 : Int32)) (pc' := 76) hC rfl dX9_packPlace_75 (by decide) ?_
      refine gx_istore (pc' := 78) hC [(6, .int (2 : Int32)), (5, .int (1 : Int32)), (4, .int z0), (0, .ref (a 0)), (1, .int x1), (2, .int x2), (3, .int x3)] rfl dX9_packPlace_76 (by decide) rfl ?_
      exact gx_sub [(0, .ref (a 0)), (1, .int x1), (2, .int x2), (3, .int x3), (4, .int z0), (5, .int (1 : Int32)), (6, .int (2 : Int32))] [3, 4, 5, 6, 2, 1, 0] rfl (g_X9_packPlace_L78 hC 10000 x1 x2 x3 z0 (1 : Int32) (2 : Int32) S)
    · refine gx_iconst (v := (0 : Int32)) (pc' := 73) hC rfl dX9_packPlace_72 (by decide) ?_
      refine gx_istore (pc' := 75) hC [(5, .int (0 : Int32)), (4, .int z0), (0, .ref (a 0)), (1, .int x1), (2, .int x2), (3, .int x3)] rfl dX9_packPlace_73 (by decide) rfl ?_
      refine gx_iconst (v := (2 : Int32)) (pc' := 76) hC rfl dX9_packPlace_75 (by decide) ?_
      refine gx_istore (pc' := 78) hC [(6, .int (2 : Int32)), (5, .int (0 : Int32)), (4, .int z0), (0, .ref (a 0)), (1, .int x1), (2, .int x2), (3, .int x3)] rfl dX9_packPlace_76 (by decide) rfl ?_
      exact gx_sub [(0, .ref (a 0)), (1, .int x1), (2, .int x2), (3, .int x3), (4, .int z0), (5, .int (0 : Int32)), (6, .int (2 : Int32))] [3, 4, 5, 6, 2, 1, 0] rfl (g_X9_packPlace_L78 hC 10000 x1 x2 x3 z0 (0 : Int32) (2 : Int32) S)
  · refine gx_iconst (v := (0 : Int32)) (pc' := 73) hC rfl dX9_packPlace_72 (by decide) ?_
    refine gx_istore (pc' := 75) hC [(5, .int (0 : Int32)), (4, .int z0), (0, .ref (a 0)), (1, .int x1), (2, .int x2), (3, .int x3)] rfl dX9_packPlace_73 (by decide) rfl ?_
    refine gx_iconst (v := (2 : Int32)) (pc' := 76) hC rfl dX9_packPlace_75 (by decide) ?_
    refine gx_istore (pc' := 78) hC [(6, .int (2 : Int32)), (5, .int (0 : Int32)), (4, .int z0), (0, .ref (a 0)), (1, .int x1), (2, .int x2), (3, .int x3)] rfl dX9_packPlace_76 (by decide) rfl ?_
    exact gx_sub [(0, .ref (a 0)), (1, .int x1), (2, .int x2), (3, .int x3), (4, .int z0), (5, .int (0 : Int32)), (6, .int (2 : Int32))] [3, 4, 5, 6, 2, 1, 0] rfl (g_X9_packPlace_L78 hC 10000 x1 x2 x3 z0 (0 : Int32) (2 : Int32) S)
set_option maxHeartbeats 4000000 in
set_option maxRecDepth 100000 in
theorem g_X9_packPlace_L18 {p : Program} {l : Launch} {e : Env} {s : State} {m : MethodId} {args : Array Value} {below : List Frame} {meth : Method} {c : Code} {D : va_G} {cI cZ cR : ClassId} {a : Nat → Nat} {tZ : Nat} {A : Nat → Prop} (hC : CX p s m args meth c cX9_packPlace 9 none yX9_packPlace.cls D (tyl cI cZ cR) tZ A) (x1 : Int32) (x2 : Int32) (z0 : Int32) (S : St) : GX p l e rm_X9_packPlace s m args below meth c 9 D A (wM cI cZ a) (KV below D (tyl cI cZ cR) (wM cI cZ a) A args s) 18 [(0, .ref (a 0)), (1, .int x1), (2, .int x2)] [.int z0] S (m_X9_packPlace_L18 x1 x2 z0 S) := by
  rw [m_X9_packPlace_L18]
  refine gx_istore_n (pc' := 19) hC [(3, .int z0), (0, .ref (a 0)), (1, .int x1), (2, .int x2)] rfl dX9_packPlace_18 (by decide) rfl ?_
  refine gx_iload_n (pc' := 20) hC rfl dX9_packPlace_19 rfl ?_
  refine gx_iconst (v := (1 : Int32)) (pc' := 21) hC rfl dX9_packPlace_20 (by decide) ?_
  refine gx_icmp_ne (pc' := 24) hC 37 rfl dX9_packPlace_21 (by decide) (fun h2 => ?_) (fun h2 => ?_)
  · refine gx_aload_n (pc' := 25) hC rfl dX9_packPlace_24 rfl ?_
    refine gx_get (pc' := 28) hC 0 (atM0 cI cZ a _) rfl inw_X9 6 (by decide) lk_X9_19 rfl rfl dX9_packPlace_25 ?_
    refine gx_iconst (v := (5 : Int32)) (pc' := 29) hC rfl dX9_packPlace_28 (by decide) ?_
    refine gx_iload_n (pc' := 30) hC rfl dX9_packPlace_29 rfl ?_
    refine gx_imul (pc' := 31) hC rfl dX9_packPlace_30 ?_
    refine gx_iconst (v := (1 : Int32)) (pc' := 32) hC rfl dX9_packPlace_31 (by decide) ?_
    refine gx_iadd (pc' := 33) hC rfl dX9_packPlace_32 ?_
    refine gx_iald (pc' := 34) hC 4 0 (atM4 cI cZ a _) rfl rfl dX9_packPlace_33 ?_
    refine gx_goto hC 45 dX9_packPlace_34 (by decide) ?_
    exact gx_sub [(0, .ref (a 0)), (1, .int x1), (2, .int x2), (3, .int z0)] [1, 2, 3, 0] rfl (g_X9_packPlace_L45 hC x1 x2 z0 (S 6 (((5 : Int32) * x1) + (1 : Int32)).toNatClampNeg) S)
  · refine gx_aload_n (pc' := 38) hC rfl dX9_packPlace_37 rfl ?_
    refine gx_get (pc' := 41) hC 0 (atM0 cI cZ a _) rfl inw_X9 6 (by decide) lk_X9_19 rfl rfl dX9_packPlace_38 ?_
    refine gx_iconst (v := (5 : Int32)) (pc' := 42) hC rfl dX9_packPlace_41 (by decide) ?_
    refine gx_iload_n (pc' := 43) hC rfl dX9_packPlace_42 rfl ?_
    refine gx_imul (pc' := 44) hC rfl dX9_packPlace_43 ?_
    refine gx_iald (pc' := 45) hC 4 0 (atM4 cI cZ a _) rfl rfl dX9_packPlace_44 ?_
    exact gx_sub [(0, .ref (a 0)), (1, .int x1), (2, .int x2), (3, .int z0)] [1, 2, 3, 0] rfl (g_X9_packPlace_L45 hC x1 x2 z0 (S 6 ((5 : Int32) * x1).toNatClampNeg) S)
set_option maxHeartbeats 4000000 in
set_option maxRecDepth 100000 in
theorem c_X9_packPlace {l : Launch} {D : va_G} {tZ : Nat} (cI cZ cR : ClassId) (a : Nat → Nat) (x1 : Int32) (x2 : Int32) (S : St) : MV l D (tyl cI cZ cR) tZ (wM cI cZ a) yX9_packPlace cX9_packPlace 9 none rm_X9_packPlace [.ref (a 0), .int x1, .int x2] S (m_X9_packPlace x1 x2 S) := by
  refine gx_metV (by decide) (Nat.le_of_ble_eq_true rfl) ?_
  intro p e s m below meth c A hC
  refine gx_sub [(0, .ref (a 0)), (1, .int x1), (2, .int x2)] [0, 1, 2] rfl ?_
  rw [m_X9_packPlace]
  refine gx_aload_n (pc' := 1) hC rfl dX9_packPlace_0 rfl ?_
  refine gx_get (pc' := 4) hC 0 (atM0 cI cZ a _) rfl inw_X9 6 (by decide) lk_X9_19 rfl rfl dX9_packPlace_1 ?_
  refine gx_iconst (v := (5 : Int32)) (pc' := 5) hC rfl dX9_packPlace_4 (by decide) ?_
  refine gx_iload_n (pc' := 6) hC rfl dX9_packPlace_5 rfl ?_
  refine gx_imul (pc' := 7) hC rfl dX9_packPlace_6 ?_
  refine gx_iconst (v := (1 : Int32)) (pc' := 8) hC rfl dX9_packPlace_7 (by decide) ?_
  refine gx_iadd (pc' := 9) hC rfl dX9_packPlace_8 ?_
  refine gx_iald (pc' := 10) hC 4 0 (atM4 cI cZ a _) rfl rfl dX9_packPlace_9 ?_
  refine gx_if_eq (pc' := 13) hC 17 rfl dX9_packPlace_10 (by decide) (fun h1 => ?_) (fun h1 => ?_)
  · refine gx_iconst (v := (0 : Int32)) (pc' := 18) hC rfl dX9_packPlace_17 (by decide) ?_
    exact gx_sub [(0, .ref (a 0)), (1, .int x1), (2, .int x2)] [0, 1, 2] rfl (g_X9_packPlace_L18 hC x1 x2 (0 : Int32) S)
  · refine gx_iconst (v := (1 : Int32)) (pc' := 14) hC rfl dX9_packPlace_13 (by decide) ?_
    refine gx_goto hC 18 dX9_packPlace_14 (by decide) ?_
    exact gx_sub [(0, .ref (a 0)), (1, .int x1), (2, .int x2)] [0, 1, 2] rfl (g_X9_packPlace_L18 hC x1 x2 (1 : Int32) S)
set_option maxHeartbeats 4000000 in
set_option maxRecDepth 100000 in
theorem g_X9_packFunction_L93 {p : Program} {l : Launch} {e : Env} {s : State} {m : MethodId} {args : Array Value} {below : List Frame} {meth : Method} {c : Code} {D : va_G} {cI cZ cR : ClassId} {a : Nat → Nat} {tZ : Nat} {A : Nat → Prop} (hC : CX p s m args meth c cX9_packFunction 4 none yX9_packFunction.cls D (tyl cI cZ cR) tZ A) : ∀ (n : Nat) (x1 : Int32) (x2 : Int32) (x3 : Int32) (S : St), GX p l e rm_X9_packFunction s m args below meth c 4 D A (wM cI cZ a) (KV below D (tyl cI cZ cR) (wM cI cZ a) A args s) 93 [(0, .ref (a 0)), (1, .int x1), (2, .int x2), (3, .int x3)] [] S (m_X9_packFunction_L93 n x1 x2 x3 S) := by
  intro n
  induction n with
  | zero => intro x1 x2 x3 S; exact gx_none
  | succ n ih =>
    intro x1 x2 x3 S
    rw [m_X9_packFunction_L93]
    refine gx_iload_n (pc' := 94) hC rfl dX9_packFunction_93 rfl ?_
    refine gx_aload_n (pc' := 95) hC rfl dX9_packFunction_94 rfl ?_
    refine gx_get (pc' := 98) hC 0 (atM0 cI cZ a _) rfl inw_X9 5 (by decide) lk_X9_16 rfl rfl dX9_packFunction_95 ?_
    refine gx_iload_n (pc' := 99) hC rfl dX9_packFunction_98 rfl ?_
    refine gx_iald (pc' := 100) hC 3 0 (atM3 cI cZ a _) rfl rfl dX9_packFunction_99 ?_
    refine gx_icmp_ge (pc' := 103) hC 129 rfl dX9_packFunction_100 (by decide) (fun h2 => ?_) (fun h2 => ?_)
    · refine gx_aload_n (pc' := 130) hC rfl dX9_packFunction_129 rfl ?_
      refine gx_get (pc' := 133) hC 0 (atM0 cI cZ a _) rfl inw_X9 27 (by decide) lk_X9_124 rfl rfl dX9_packFunction_130 ?_
      refine gx_iload_n (pc' := 134) hC rfl dX9_packFunction_133 rfl ?_
      refine gx_isub (pc' := 135) hC rfl dX9_packFunction_134 ?_
      refine gx_iconst (v := (2 : Int32)) (pc' := 136) hC rfl dX9_packFunction_135 (by decide) ?_
      refine gx_isub (pc' := 137) hC rfl dX9_packFunction_136 ?_
      refine gx_istore_n (pc' := 138) hC [(3, .int (((S 30 27) - x2) - (2 : Int32))), (0, .ref (a 0)), (1, .int x1), (2, .int x2)] rfl dX9_packFunction_137 (by decide) rfl ?_
      refine gx_aload_n (pc' := 139) hC rfl dX9_packFunction_138 rfl ?_
      refine gx_get (pc' := 142) hC 0 (atM0 cI cZ a _) rfl inw_X9 11 (by decide) lk_X9_35 rfl rfl dX9_packFunction_139 ?_
      refine gx_iload_n (pc' := 143) hC rfl dX9_packFunction_142 rfl ?_
      refine gx_iload_n (pc' := 144) hC rfl dX9_packFunction_143 rfl ?_
      refine gx_sipush (v := (256 : Int32)) (pc' := 147) hC rfl dX9_packFunction_144 (by decide) ?_
      refine gx_idiv (pc' := 148) hC rfl dX9_packFunction_147 (by decide) ?_
      refine gx_iast (pc' := 149) hC 9 0 (atM9 cI cZ a _) rfl (st S 11 x2.toNatClampNeg ((((S 30 27) - x2) - (2 : Int32)) / (256 : Int32))) (stM9 cI cZ a _ _ _) rfl dX9_packFunction_148 ?_
      refine gx_aload_n (pc' := 150) hC rfl dX9_packFunction_149 rfl ?_
      refine gx_get (pc' := 153) hC 0 (atM0 cI cZ a _) rfl inw_X9 11 (by decide) lk_X9_35 rfl rfl dX9_packFunction_150 ?_
      refine gx_iload_n (pc' := 154) hC rfl dX9_packFunction_153 rfl ?_
      refine gx_iconst (v := (1 : Int32)) (pc' := 155) hC rfl dX9_packFunction_154 (by decide) ?_
      refine gx_iadd (pc' := 156) hC rfl dX9_packFunction_155 ?_
      refine gx_iload_n (pc' := 157) hC rfl dX9_packFunction_156 rfl ?_
      refine gx_sipush (v := (256 : Int32)) (pc' := 160) hC rfl dX9_packFunction_157 (by decide) ?_
      refine gx_irem (pc' := 161) hC rfl dX9_packFunction_160 (by decide) ?_
      refine gx_iast (pc' := 162) hC 9 0 (atM9 cI cZ a _) rfl (st (st S 11 x2.toNatClampNeg ((((S 30 27) - x2) - (2 : Int32)) / (256 : Int32))) 11 (x2 + (1 : Int32)).toNatClampNeg ((((S 30 27) - x2) - (2 : Int32)) - (((S 30 27) - x2) - (2 : Int32)) / (256 : Int32) * (256 : Int32))) (stM9 cI cZ a _ _ _) rfl dX9_packFunction_161 ?_
      exact gx_vret hC dX9_packFunction_162
    · refine gx_aload_n (pc' := 104) hC rfl dX9_packFunction_103 rfl ?_
      refine gx_get (pc' := 107) hC 0 (atM0 cI cZ a _) rfl inw_X9 6 (by decide) lk_X9_19 rfl rfl dX9_packFunction_104 ?_
      refine gx_iconst (v := (5 : Int32)) (pc' := 108) hC rfl dX9_packFunction_107 (by decide) ?_
      refine gx_iload_n (pc' := 109) hC rfl dX9_packFunction_108 rfl ?_
      refine gx_imul (pc' := 110) hC rfl dX9_packFunction_109 ?_
      refine gx_iald (pc' := 111) hC 4 0 (atM4 cI cZ a _) rfl rfl dX9_packFunction_110 ?_
      refine gx_if_le (pc' := 114) hC 123 rfl dX9_packFunction_111 (by decide) (fun h3 => ?_) (fun h3 => ?_)
      · refine gx_iinc (v := (x3 + (1 : Int32))) (pc' := 126) hC [(3, .int (x3 + (1 : Int32))), (0, .ref (a 0)), (1, .int x1), (2, .int x2)] rfl dX9_packFunction_123 rfl rfl (by decide) rfl ?_
        refine gx_goto hC 93 dX9_packFunction_126 (by decide) ?_
        exact gx_sub [(0, .ref (a 0)), (1, .int x1), (2, .int x2), (3, .int (x3 + (1 : Int32)))] [1, 2, 3, 0] rfl (ih x1 x2 (x3 + (1 : Int32)) S)
      · refine gx_aload_n (pc' := 115) hC rfl dX9_packFunction_114 rfl ?_
        refine gx_iload_n (pc' := 116) hC rfl dX9_packFunction_115 rfl ?_
        refine gx_aload_n (pc' := 117) hC rfl dX9_packFunction_116 rfl ?_
        refine gx_get (pc' := 120) hC 0 (atM0 cI cZ a _) rfl inw_X9 28 (by decide) lk_X9_131 rfl rfl dX9_packFunction_117 ?_
        refine gx_callVV (pc' := 123) hC (c_X9_packPlace cI cZ cR a x3 (S 30 28) _) 0 (atM0 cI cZ a _) rfl kw_X9_134 hy_X9_packPlace ⟨rfl, rfl⟩ (by decide) rfl rfl (Nat.le_of_ble_eq_true rfl) rfl dX9_packFunction_120 (fun r5 => ?_)
        refine gx_iinc (v := (x3 + (1 : Int32))) (pc' := 126) hC [(3, .int (x3 + (1 : Int32))), (0, .ref (a 0)), (1, .int x1), (2, .int x2)] rfl dX9_packFunction_123 rfl rfl (by decide) rfl ?_
        refine gx_goto hC 93 dX9_packFunction_126 (by decide) ?_
        exact gx_sub [(0, .ref (a 0)), (1, .int x1), (2, .int x2), (3, .int (x3 + (1 : Int32)))] [1, 2, 3, 0] rfl (ih x1 x2 (x3 + (1 : Int32)) r5.2)
set_option maxHeartbeats 4000000 in
set_option maxRecDepth 100000 in
theorem g_X9_packFunction_L58 {p : Program} {l : Launch} {e : Env} {s : State} {m : MethodId} {args : Array Value} {below : List Frame} {meth : Method} {c : Code} {D : va_G} {cI cZ cR : ClassId} {a : Nat → Nat} {tZ : Nat} {A : Nat → Prop} (hC : CX p s m args meth c cX9_packFunction 4 none yX9_packFunction.cls D (tyl cI cZ cR) tZ A) : ∀ (n : Nat) (x1 : Int32) (x2 : Int32) (x3 : Int32) (S : St), GX p l e rm_X9_packFunction s m args below meth c 4 D A (wM cI cZ a) (KV below D (tyl cI cZ cR) (wM cI cZ a) A args s) 58 [(0, .ref (a 0)), (1, .int x1), (2, .int x2), (3, .int x3)] [] S (m_X9_packFunction_L58 n x1 x2 x3 S) := by
  intro n
  induction n with
  | zero => intro x1 x2 x3 S; exact gx_none
  | succ n ih =>
    intro x1 x2 x3 S
    rw [m_X9_packFunction_L58]
    refine gx_iload_n (pc' := 59) hC rfl dX9_packFunction_58 rfl ?_
    refine gx_iconst (v := (5 : Int32)) (pc' := 60) hC rfl dX9_packFunction_59 (by decide) ?_
    refine gx_icmp_ge (pc' := 63) hC 76 rfl dX9_packFunction_60 (by decide) (fun h1 => ?_) (fun h1 => ?_)
    · refine gx_aload_n (pc' := 77) hC rfl dX9_packFunction_76 rfl ?_
      refine gx_aload_n (pc' := 78) hC rfl dX9_packFunction_77 rfl ?_
      refine gx_get (pc' := 81) hC 0 (atM0 cI cZ a _) rfl inw_X9 4 (by decide) lk_X9_13 rfl rfl dX9_packFunction_78 ?_
      refine gx_iload_n (pc' := 82) hC rfl dX9_packFunction_81 rfl ?_
      refine gx_iald (pc' := 83) hC 2 0 (atM2 cI cZ a _) rfl rfl dX9_packFunction_82 ?_
      refine gx_put (pc' := 86) hC tyX9_ok nmX9 0 (atM0 cI cZ a _) rfl inw_X9 28 (by decide) lk_X9_131 rfl rfl rfl (Nat.le_of_ble_eq_true rfl) (st S 30 28 (S 4 x1.toNatClampNeg)) (ptM0_28 cI cZ a _ _) rfl dX9_packFunction_83 ?_
      refine gx_aload_n (pc' := 87) hC rfl dX9_packFunction_86 rfl ?_
      refine gx_get (pc' := 90) hC 0 (atM0 cI cZ a _) rfl inw_X9 4 (by decide) lk_X9_13 rfl rfl dX9_packFunction_87 ?_
      refine gx_iload_n (pc' := 91) hC rfl dX9_packFunction_90 rfl ?_
      refine gx_iald (pc' := 92) hC 2 0 (atM2 cI cZ a _) rfl rfl dX9_packFunction_91 ?_
      refine gx_istore_n (pc' := 93) hC [(3, .int ((st S 30 28 (S 4 x1.toNatClampNeg)) 4 x1.toNatClampNeg)), (0, .ref (a 0)), (1, .int x1), (2, .int x2)] rfl dX9_packFunction_92 (by decide) rfl ?_
      exact gx_sub [(0, .ref (a 0)), (1, .int x1), (2, .int x2), (3, .int ((st S 30 28 (S 4 x1.toNatClampNeg)) 4 x1.toNatClampNeg))] [1, 2, 3, 0] rfl (g_X9_packFunction_L93 hC 10000 x1 x2 ((st S 30 28 (S 4 x1.toNatClampNeg)) 4 x1.toNatClampNeg) (st S 30 28 (S 4 x1.toNatClampNeg)))
    · refine gx_aload_n (pc' := 64) hC rfl dX9_packFunction_63 rfl ?_
      refine gx_get (pc' := 67) hC 0 (atM0 cI cZ a _) rfl inw_X9 14 (by decide) lk_X9_41 rfl rfl dX9_packFunction_64 ?_
      refine gx_iload_n (pc' := 68) hC rfl dX9_packFunction_67 rfl ?_
      refine gx_iconst (v := (0 : Int32)) (pc' := 69) hC rfl dX9_packFunction_68 (by decide) ?_
      refine gx_iast (pc' := 70) hC 11 0 (atM11 cI cZ a _) rfl (st S 14 x3.toNatClampNeg (0 : Int32)) (stM11 cI cZ a _ _ _) rfl dX9_packFunction_69 ?_
      refine gx_iinc (v := (x3 + (1 : Int32))) (pc' := 73) hC [(3, .int (x3 + (1 : Int32))), (0, .ref (a 0)), (1, .int x1), (2, .int x2)] rfl dX9_packFunction_70 rfl rfl (by decide) rfl ?_
      refine gx_goto hC 58 dX9_packFunction_73 (by decide) ?_
      exact gx_sub [(0, .ref (a 0)), (1, .int x1), (2, .int x2), (3, .int (x3 + (1 : Int32)))] [1, 2, 3, 0] rfl (ih x1 x2 (x3 + (1 : Int32)) (st S 14 x3.toNatClampNeg (0 : Int32)))
set_option maxHeartbeats 4000000 in
set_option maxRecDepth 100000 in
theorem c_X9_packFunction {l : Launch} {D : va_G} {tZ : Nat} (cI cZ cR : ClassId) (a : Nat → Nat) (x1 : Int32) (S : St) : MV l D (tyl cI cZ cR) tZ (wM cI cZ a) yX9_packFunction cX9_packFunction 4 none rm_X9_packFunction [.ref (a 0), .int x1] S (m_X9_packFunction x1 S) := by
  refine gx_metV (by decide) (Nat.le_of_ble_eq_true rfl) ?_
  intro p e s m below meth c A hC
  refine gx_sub [(0, .ref (a 0)), (1, .int x1)] [0, 1] rfl ?_
  rw [m_X9_packFunction]
  refine gx_aload_n (pc' := 1) hC rfl dX9_packFunction_0 rfl ?_
  refine gx_get (pc' := 4) hC 0 (atM0 cI cZ a _) rfl inw_X9 27 (by decide) lk_X9_124 rfl rfl dX9_packFunction_1 ?_
  refine gx_istore_n (pc' := 5) hC [(2, .int (S 30 27)), (0, .ref (a 0)), (1, .int x1)] rfl dX9_packFunction_4 (by decide) rfl ?_
  refine gx_aload_n (pc' := 6) hC rfl dX9_packFunction_5 rfl ?_
  refine gx_iconst (v := (0 : Int32)) (pc' := 7) hC rfl dX9_packFunction_6 (by decide) ?_
  refine gx_callVV (pc' := 10) hC (c_X9_put cI cZ cR a (0 : Int32) _) 0 (atM0 cI cZ a _) rfl kw_X9_127 hy_X9_put ⟨rfl, rfl⟩ (by decide) rfl rfl (Nat.le_of_ble_eq_true rfl) rfl dX9_packFunction_7 (fun r1 => ?_)
  refine gx_aload_n (pc' := 11) hC rfl dX9_packFunction_10 rfl ?_
  refine gx_iconst (v := (0 : Int32)) (pc' := 12) hC rfl dX9_packFunction_11 (by decide) ?_
  refine gx_callVV (pc' := 15) hC (c_X9_put cI cZ cR a (0 : Int32) _) 0 (atM0 cI cZ a _) rfl kw_X9_127 hy_X9_put ⟨rfl, rfl⟩ (by decide) rfl rfl (Nat.le_of_ble_eq_true rfl) rfl dX9_packFunction_12 (fun r2 => ?_)
  refine gx_aload_n (pc' := 16) hC rfl dX9_packFunction_15 rfl ?_
  refine gx_aload_n (pc' := 17) hC rfl dX9_packFunction_16 rfl ?_
  refine gx_get (pc' := 20) hC 0 (atM0 cI cZ a _) rfl inw_X9 4 (by decide) lk_X9_13 rfl rfl dX9_packFunction_17 ?_
  refine gx_iload_n (pc' := 21) hC rfl dX9_packFunction_20 rfl ?_
  refine gx_iald (pc' := 22) hC 2 0 (atM2 cI cZ a _) rfl rfl dX9_packFunction_21 ?_
  refine gx_callVV (pc' := 25) hC (c_X9_put cI cZ cR a (r2.2 4 x1.toNatClampNeg) _) 0 (atM0 cI cZ a _) rfl kw_X9_127 hy_X9_put ⟨rfl, rfl⟩ (by decide) rfl rfl (Nat.le_of_ble_eq_true rfl) rfl dX9_packFunction_22 (fun r3 => ?_)
  refine gx_aload_n (pc' := 26) hC rfl dX9_packFunction_25 rfl ?_
  refine gx_aload_n (pc' := 27) hC rfl dX9_packFunction_26 rfl ?_
  refine gx_get (pc' := 30) hC 0 (atM0 cI cZ a _) rfl inw_X9 5 (by decide) lk_X9_16 rfl rfl dX9_packFunction_27 ?_
  refine gx_iload_n (pc' := 31) hC rfl dX9_packFunction_30 rfl ?_
  refine gx_iald (pc' := 32) hC 3 0 (atM3 cI cZ a _) rfl rfl dX9_packFunction_31 ?_
  refine gx_aload_n (pc' := 33) hC rfl dX9_packFunction_32 rfl ?_
  refine gx_get (pc' := 36) hC 0 (atM0 cI cZ a _) rfl inw_X9 4 (by decide) lk_X9_13 rfl rfl dX9_packFunction_33 ?_
  refine gx_iload_n (pc' := 37) hC rfl dX9_packFunction_36 rfl ?_
  refine gx_iald (pc' := 38) hC 2 0 (atM2 cI cZ a _) rfl rfl dX9_packFunction_37 ?_
  refine gx_isub (pc' := 39) hC rfl dX9_packFunction_38 ?_
  refine gx_callVV (pc' := 42) hC (c_X9_put cI cZ cR a ((r3.2 5 x1.toNatClampNeg) - (r3.2 4 x1.toNatClampNeg)) _) 0 (atM0 cI cZ a _) rfl kw_X9_127 hy_X9_put ⟨rfl, rfl⟩ (by decide) rfl rfl (Nat.le_of_ble_eq_true rfl) rfl dX9_packFunction_39 (fun r4 => ?_)
  refine gx_aload_n (pc' := 43) hC rfl dX9_packFunction_42 rfl ?_
  refine gx_get (pc' := 46) hC 0 (atM0 cI cZ a _) rfl inw_X9 14 (by decide) lk_X9_41 rfl rfl dX9_packFunction_43 ?_
  refine gx_iconst (v := (0 : Int32)) (pc' := 47) hC rfl dX9_packFunction_46 (by decide) ?_
  refine gx_iconst (v := (0 : Int32)) (pc' := 48) hC rfl dX9_packFunction_47 (by decide) ?_
  refine gx_iast (pc' := 49) hC 11 0 (atM11 cI cZ a _) rfl (st r4.2 14 (0 : Int32).toNatClampNeg (0 : Int32)) (stM11 cI cZ a _ _ _) rfl dX9_packFunction_48 ?_
  refine gx_aload_n (pc' := 50) hC rfl dX9_packFunction_49 rfl ?_
  refine gx_get (pc' := 53) hC 0 (atM0 cI cZ a _) rfl inw_X9 14 (by decide) lk_X9_41 rfl rfl dX9_packFunction_50 ?_
  refine gx_iconst (v := (1 : Int32)) (pc' := 54) hC rfl dX9_packFunction_53 (by decide) ?_
  refine gx_iconst (v := (1 : Int32)) (pc' := 55) hC rfl dX9_packFunction_54 (by decide) ?_
  refine gx_iast (pc' := 56) hC 11 0 (atM11 cI cZ a _) rfl (st (st r4.2 14 (0 : Int32).toNatClampNeg (0 : Int32)) 14 (1 : Int32).toNatClampNeg (1 : Int32)) (stM11 cI cZ a _ _ _) rfl dX9_packFunction_55 ?_
  refine gx_iconst (v := (2 : Int32)) (pc' := 57) hC rfl dX9_packFunction_56 (by decide) ?_
  refine gx_istore_n (pc' := 58) hC [(3, .int (2 : Int32)), (2, .int (S 30 27)), (0, .ref (a 0)), (1, .int x1)] rfl dX9_packFunction_57 (by decide) rfl ?_
  exact gx_sub [(0, .ref (a 0)), (1, .int x1), (2, .int (S 30 27)), (3, .int (2 : Int32))] [2, 3, 1, 0] rfl (g_X9_packFunction_L58 hC 10000 x1 (S 30 27) (2 : Int32) (st (st r4.2 14 (0 : Int32).toNatClampNeg (0 : Int32)) 14 (1 : Int32).toNatClampNeg (1 : Int32)))
set_option maxHeartbeats 4000000 in
set_option maxRecDepth 100000 in
theorem g_X9_pack_L44 {p : Program} {l : Launch} {e : Env} {s : State} {m : MethodId} {args : Array Value} {below : List Frame} {meth : Method} {c : Code} {D : va_G} {cI cZ cR : ClassId} {a : Nat → Nat} {tZ : Nat} {A : Nat → Prop} (hC : CX p s m args meth c cX9_pack 3 (some .int) yX9_pack.cls D (tyl cI cZ cR) tZ A) (k12 : Int32 → St → Option (Int32 × St)) (hk12 : ∀ (x1 : Int32) (S : St), GX p l e rm_X9_pack s m args below meth c 3 D A (wM cI cZ a) (KI below D (tyl cI cZ cR) (wM cI cZ a) A args s) 12 [(0, .ref (a 0)), (1, .int x1)] [] S (k12 x1 S)) : ∀ (n : Nat) (x1 : Int32) (x2 : Int32) (S : St), GX p l e rm_X9_pack s m args below meth c 3 D A (wM cI cZ a) (KI below D (tyl cI cZ cR) (wM cI cZ a) A args s) 44 [(0, .ref (a 0)), (1, .int x1), (2, .int x2)] [] S (m_X9_pack_L44 k12 n x1 x2 S) := by
  intro n
  induction n with
  | zero => intro x1 x2 S; exact gx_none
  | succ n ih =>
    intro x1 x2 S
    rw [m_X9_pack_L44]
    refine gx_iload_n (pc' := 45) hC rfl dX9_pack_44 rfl ?_
    refine gx_bipush (v := (97 : Int32)) (pc' := 47) hC rfl dX9_pack_45 (by decide) ?_
    refine gx_icmp_ge (pc' := 50) hC 70 rfl dX9_pack_47 (by decide) (fun h4 => ?_) (fun h4 => ?_)
    · refine gx_aload_n (pc' := 71) hC rfl dX9_pack_70 rfl ?_
      refine gx_iload_n (pc' := 72) hC rfl dX9_pack_71 rfl ?_
      refine gx_callVI (pc' := 75) hC (c_X9_findOut cI cZ cR a x1 _) 0 (atM0 cI cZ a _) rfl kw_X9_137 hy_X9_findOut ⟨rfl, rfl⟩ (by decide) rfl rfl (Nat.le_of_ble_eq_true rfl) rfl dX9_pack_72 (fun r1 => ?_)
      refine gx_istore_n (pc' := 76) hC [(2, .int r1.1), (0, .ref (a 0)), (1, .int x1)] rfl dX9_pack_75 (by decide) rfl ?_
      refine gx_iload_n (pc' := 77) hC rfl dX9_pack_76 rfl ?_
      refine gx_if_le (pc' := 80) hC 83 rfl dX9_pack_77 (by decide) (fun h5 => ?_) (fun h5 => ?_)
      · refine gx_aload_n (pc' := 84) hC rfl dX9_pack_83 rfl ?_
        refine gx_iload_n (pc' := 85) hC rfl dX9_pack_84 rfl ?_
        refine gx_callVV (pc' := 88) hC (c_X9_packFunction cI cZ cR a x1 _) 0 (atM0 cI cZ a _) rfl kw_X9_140 hy_X9_packFunction ⟨rfl, rfl⟩ (by decide) rfl rfl (Nat.le_of_ble_eq_true rfl) rfl dX9_pack_85 (fun r2 => ?_)
        refine gx_iinc (v := (x1 + (1 : Int32))) (pc' := 91) hC [(1, .int (x1 + (1 : Int32))), (2, .int r1.1), (0, .ref (a 0))] rfl dX9_pack_88 rfl rfl (by decide) rfl ?_
        refine gx_goto hC 12 dX9_pack_91 (by decide) ?_
        exact gx_sub [(0, .ref (a 0)), (1, .int (x1 + (1 : Int32)))] [2, 0] rfl (hk12 (x1 + (1 : Int32)) r2.2)
      · refine gx_iload_n (pc' := 81) hC rfl dX9_pack_80 rfl ?_
        refine gx_ineg (pc' := 82) hC rfl dX9_pack_81 ?_
        exact gx_iret hC dX9_pack_82
    · refine gx_aload_n (pc' := 51) hC rfl dX9_pack_50 rfl ?_
      refine gx_get (pc' := 54) hC 0 (atM0 cI cZ a _) rfl inw_X9 7 (by decide) lk_X9_22 rfl rfl dX9_pack_51 ?_
      refine gx_iload_n (pc' := 55) hC rfl dX9_pack_54 rfl ?_
      refine gx_iconst (v := (0 : Int32)) (pc' := 56) hC rfl dX9_pack_55 (by decide) ?_
      refine gx_zast (pc' := 57) hC 5 1 (atM5 cI cZ a _) rfl (by decide) (st S 7 x2.toNatClampNeg (0 : Int32)) (stM5 cI cZ a _ _ _) rfl dX9_pack_56 ?_
      refine gx_aload_n (pc' := 58) hC rfl dX9_pack_57 rfl ?_
      refine gx_get (pc' := 61) hC 0 (atM0 cI cZ a _) rfl inw_X9 8 (by decide) lk_X9_26 rfl rfl dX9_pack_58 ?_
      refine gx_iload_n (pc' := 62) hC rfl dX9_pack_61 rfl ?_
      refine gx_iconst (v := (0 : Int32)) (pc' := 63) hC rfl dX9_pack_62 (by decide) ?_
      refine gx_zast (pc' := 64) hC 6 1 (atM6 cI cZ a _) rfl (by decide) (st (st S 7 x2.toNatClampNeg (0 : Int32)) 8 x2.toNatClampNeg (0 : Int32)) (stM6 cI cZ a _ _ _) rfl dX9_pack_63 ?_
      refine gx_iinc (v := (x2 + (1 : Int32))) (pc' := 67) hC [(2, .int (x2 + (1 : Int32))), (0, .ref (a 0)), (1, .int x1)] rfl dX9_pack_64 rfl rfl (by decide) rfl ?_
      refine gx_goto hC 44 dX9_pack_67 (by decide) ?_
      exact gx_sub [(0, .ref (a 0)), (1, .int x1), (2, .int (x2 + (1 : Int32)))] [1, 2, 0] rfl (ih x1 (x2 + (1 : Int32)) (st (st S 7 x2.toNatClampNeg (0 : Int32)) 8 x2.toNatClampNeg (0 : Int32)))
set_option maxHeartbeats 4000000 in
set_option maxRecDepth 100000 in
theorem g_X9_pack_L22 {p : Program} {l : Launch} {e : Env} {s : State} {m : MethodId} {args : Array Value} {below : List Frame} {meth : Method} {c : Code} {D : va_G} {cI cZ cR : ClassId} {a : Nat → Nat} {tZ : Nat} {A : Nat → Prop} (hC : CX p s m args meth c cX9_pack 3 (some .int) yX9_pack.cls D (tyl cI cZ cR) tZ A) (k12 : Int32 → St → Option (Int32 × St)) (hk12 : ∀ (x1 : Int32) (S : St), GX p l e rm_X9_pack s m args below meth c 3 D A (wM cI cZ a) (KI below D (tyl cI cZ cR) (wM cI cZ a) A args s) 12 [(0, .ref (a 0)), (1, .int x1)] [] S (k12 x1 S)) : ∀ (n : Nat) (x1 : Int32) (x2 : Int32) (S : St), GX p l e rm_X9_pack s m args below meth c 3 D A (wM cI cZ a) (KI below D (tyl cI cZ cR) (wM cI cZ a) A args s) 22 [(0, .ref (a 0)), (1, .int x1), (2, .int x2)] [] S (m_X9_pack_L22 k12 n x1 x2 S) := by
  intro n
  induction n with
  | zero => intro x1 x2 S; exact gx_none
  | succ n ih =>
    intro x1 x2 S
    rw [m_X9_pack_L22]
    refine gx_iload_n (pc' := 23) hC rfl dX9_pack_22 rfl ?_
    refine gx_sipush (v := (485 : Int32)) (pc' := 26) hC rfl dX9_pack_23 (by decide) ?_
    refine gx_icmp_ge (pc' := 29) hC 42 rfl dX9_pack_26 (by decide) (fun h3 => ?_) (fun h3 => ?_)
    · refine gx_iconst (v := (0 : Int32)) (pc' := 43) hC rfl dX9_pack_42 (by decide) ?_
      refine gx_istore_n (pc' := 44) hC [(2, .int (0 : Int32)), (0, .ref (a 0)), (1, .int x1)] rfl dX9_pack_43 (by decide) rfl ?_
      exact gx_sub [(0, .ref (a 0)), (1, .int x1), (2, .int (0 : Int32))] [1, 2, 0] rfl (g_X9_pack_L44 hC k12 hk12 10000 x1 (0 : Int32) S)
    · refine gx_aload_n (pc' := 30) hC rfl dX9_pack_29 rfl ?_
      refine gx_get (pc' := 33) hC 0 (atM0 cI cZ a _) rfl inw_X9 6 (by decide) lk_X9_19 rfl rfl dX9_pack_30 ?_
      refine gx_iload_n (pc' := 34) hC rfl dX9_pack_33 rfl ?_
      refine gx_iconst (v := (0 : Int32)) (pc' := 35) hC rfl dX9_pack_34 (by decide) ?_
      refine gx_iast (pc' := 36) hC 4 0 (atM4 cI cZ a _) rfl (st S 6 x2.toNatClampNeg (0 : Int32)) (stM4 cI cZ a _ _ _) rfl dX9_pack_35 ?_
      refine gx_iinc (v := (x2 + (1 : Int32))) (pc' := 39) hC [(2, .int (x2 + (1 : Int32))), (0, .ref (a 0)), (1, .int x1)] rfl dX9_pack_36 rfl rfl (by decide) rfl ?_
      refine gx_goto hC 22 dX9_pack_39 (by decide) ?_
      exact gx_sub [(0, .ref (a 0)), (1, .int x1), (2, .int (x2 + (1 : Int32)))] [1, 2, 0] rfl (ih x1 (x2 + (1 : Int32)) (st S 6 x2.toNatClampNeg (0 : Int32)))
set_option maxHeartbeats 4000000 in
set_option maxRecDepth 100000 in
theorem g_X9_pack_L96 {p : Program} {l : Launch} {e : Env} {s : State} {m : MethodId} {args : Array Value} {below : List Frame} {meth : Method} {c : Code} {D : va_G} {cI cZ cR : ClassId} {a : Nat → Nat} {tZ : Nat} {A : Nat → Prop} (hC : CX p s m args meth c cX9_pack 3 (some .int) yX9_pack.cls D (tyl cI cZ cR) tZ A) : ∀ (n : Nat) (x1 : Int32) (S : St), GX p l e rm_X9_pack s m args below meth c 3 D A (wM cI cZ a) (KI below D (tyl cI cZ cR) (wM cI cZ a) A args s) 96 [(0, .ref (a 0)), (1, .int x1)] [] S (m_X9_pack_L96 n x1 S) := by
  intro n
  induction n with
  | zero => intro x1 S; exact gx_none
  | succ n ih =>
    intro x1 S
    rw [m_X9_pack_L96]
    refine gx_iload_n (pc' := 97) hC rfl dX9_pack_96 rfl ?_
    refine gx_aload_n (pc' := 98) hC rfl dX9_pack_97 rfl ?_
    refine gx_get (pc' := 101) hC 0 (atM0 cI cZ a _) rfl inw_X9 27 (by decide) lk_X9_124 rfl rfl dX9_pack_98 ?_
    refine gx_icmp_ge (pc' := 104) hC 122 rfl dX9_pack_101 (by decide) (fun h2 => ?_) (fun h2 => ?_)
    · refine gx_aload_n (pc' := 123) hC rfl dX9_pack_122 rfl ?_
      refine gx_aload_n (pc' := 124) hC rfl dX9_pack_123 rfl ?_
      refine gx_get (pc' := 127) hC 0 (atM0 cI cZ a _) rfl inw_X9 27 (by decide) lk_X9_124 rfl rfl dX9_pack_124 ?_
      refine gx_put (pc' := 130) hC tyX9_ok nmX9 0 (atM0 cI cZ a _) rfl inw_X9 12 (by decide) lk_X9_143 rfl rfl rfl (Nat.le_of_ble_eq_true rfl) (st S 30 12 (S 30 27)) (ptM0_12 cI cZ a _ _) rfl dX9_pack_127 ?_
      refine gx_aload_n (pc' := 131) hC rfl dX9_pack_130 rfl ?_
      refine gx_get (pc' := 134) hC 0 (atM0 cI cZ a _) rfl inw_X9 12 (by decide) lk_X9_143 rfl rfl dX9_pack_131 ?_
      exact gx_iret hC dX9_pack_134
    · refine gx_aload_n (pc' := 105) hC rfl dX9_pack_104 rfl ?_
      refine gx_get (pc' := 108) hC 0 (atM0 cI cZ a _) rfl inw_X9 10 (by decide) lk_X9_32 rfl rfl dX9_pack_105 ?_
      refine gx_iload_n (pc' := 109) hC rfl dX9_pack_108 rfl ?_
      refine gx_aload_n (pc' := 110) hC rfl dX9_pack_109 rfl ?_
      refine gx_get (pc' := 113) hC 0 (atM0 cI cZ a _) rfl inw_X9 11 (by decide) lk_X9_35 rfl rfl dX9_pack_110 ?_
      refine gx_iload_n (pc' := 114) hC rfl dX9_pack_113 rfl ?_
      refine gx_iald (pc' := 115) hC 9 0 (atM9 cI cZ a _) rfl rfl dX9_pack_114 ?_
      refine gx_iast (pc' := 116) hC 8 0 (atM8 cI cZ a _) rfl (st S 10 x1.toNatClampNeg (S 11 x1.toNatClampNeg)) (stM8 cI cZ a _ _ _) rfl dX9_pack_115 ?_
      refine gx_iinc (v := (x1 + (1 : Int32))) (pc' := 119) hC [(1, .int (x1 + (1 : Int32))), (0, .ref (a 0))] rfl dX9_pack_116 rfl rfl (by decide) rfl ?_
      refine gx_goto hC 96 dX9_pack_119 (by decide) ?_
      exact gx_sub [(0, .ref (a 0)), (1, .int (x1 + (1 : Int32)))] [1, 0] rfl (ih (x1 + (1 : Int32)) (st S 10 x1.toNatClampNeg (S 11 x1.toNatClampNeg)))
set_option maxHeartbeats 4000000 in
set_option maxRecDepth 100000 in
theorem g_X9_pack_L12 {p : Program} {l : Launch} {e : Env} {s : State} {m : MethodId} {args : Array Value} {below : List Frame} {meth : Method} {c : Code} {D : va_G} {cI cZ cR : ClassId} {a : Nat → Nat} {tZ : Nat} {A : Nat → Prop} (hC : CX p s m args meth c cX9_pack 3 (some .int) yX9_pack.cls D (tyl cI cZ cR) tZ A) : ∀ (n : Nat) (x1 : Int32) (S : St), GX p l e rm_X9_pack s m args below meth c 3 D A (wM cI cZ a) (KI below D (tyl cI cZ cR) (wM cI cZ a) A args s) 12 [(0, .ref (a 0)), (1, .int x1)] [] S (m_X9_pack_L12 n x1 S) := by
  intro n
  induction n with
  | zero => intro x1 S; exact gx_none
  | succ n ih =>
    intro x1 S
    rw [m_X9_pack_L12]
    refine gx_iload_n (pc' := 13) hC rfl dX9_pack_12 rfl ?_
    refine gx_aload_n (pc' := 14) hC rfl dX9_pack_13 rfl ?_
    refine gx_get (pc' := 17) hC 0 (atM0 cI cZ a _) rfl inw_X9 3 (by decide) lk_X9_76 rfl rfl dX9_pack_14 ?_
    refine gx_icmp_ge (pc' := 20) hC 94 rfl dX9_pack_17 (by decide) (fun h1 => ?_) (fun h1 => ?_)
    · refine gx_iconst (v := (0 : Int32)) (pc' := 95) hC rfl dX9_pack_94 (by decide) ?_
      refine gx_istore_n (pc' := 96) hC [(1, .int (0 : Int32)), (0, .ref (a 0))] rfl dX9_pack_95 (by decide) rfl ?_
      exact gx_sub [(0, .ref (a 0)), (1, .int (0 : Int32))] [1, 0] rfl (g_X9_pack_L96 hC 10000 (0 : Int32) S)
    · refine gx_iconst (v := (0 : Int32)) (pc' := 21) hC rfl dX9_pack_20 (by decide) ?_
      refine gx_istore_n (pc' := 22) hC [(2, .int (0 : Int32)), (0, .ref (a 0)), (1, .int x1)] rfl dX9_pack_21 (by decide) rfl ?_
      exact gx_sub [(0, .ref (a 0)), (1, .int x1), (2, .int (0 : Int32))] [1, 2, 0] rfl (g_X9_pack_L22 hC (m_X9_pack_L12 n) ih 10000 x1 (0 : Int32) S)
set_option maxHeartbeats 4000000 in
set_option maxRecDepth 100000 in
theorem c_X9_pack {l : Launch} {D : va_G} {tZ : Nat} (cI cZ cR : ClassId) (a : Nat → Nat)  (S : St) : MI l D (tyl cI cZ cR) tZ (wM cI cZ a) yX9_pack cX9_pack 3 (some .int) rm_X9_pack [.ref (a 0)] S (m_X9_pack  S) := by
  refine gx_metI (by decide) (Nat.le_of_ble_eq_true rfl) ?_
  intro p e s m below meth c A hC
  refine gx_sub [(0, .ref (a 0))] [0] rfl ?_
  rw [m_X9_pack]
  refine gx_aload_n (pc' := 1) hC rfl dX9_pack_0 rfl ?_
  refine gx_iconst (v := (0 : Int32)) (pc' := 2) hC rfl dX9_pack_1 (by decide) ?_
  refine gx_put (pc' := 5) hC tyX9_ok nmX9 0 (atM0 cI cZ a _) rfl inw_X9 0 (by decide) lk_X9_59 rfl rfl rfl (Nat.le_of_ble_eq_true rfl) (st S 30 0 (0 : Int32)) (ptM0_0 cI cZ a _ _) rfl dX9_pack_2 ?_
  refine gx_aload_n (pc' := 6) hC rfl dX9_pack_5 rfl ?_
  refine gx_iconst (v := (0 : Int32)) (pc' := 7) hC rfl dX9_pack_6 (by decide) ?_
  refine gx_put (pc' := 10) hC tyX9_ok nmX9 0 (atM0 cI cZ a _) rfl inw_X9 27 (by decide) lk_X9_124 rfl rfl rfl (Nat.le_of_ble_eq_true rfl) (st (st S 30 0 (0 : Int32)) 30 27 (0 : Int32)) (ptM0_27 cI cZ a _ _) rfl dX9_pack_7 ?_
  refine gx_iconst (v := (0 : Int32)) (pc' := 11) hC rfl dX9_pack_10 (by decide) ?_
  refine gx_istore_n (pc' := 12) hC [(1, .int (0 : Int32)), (0, .ref (a 0))] rfl dX9_pack_11 (by decide) rfl ?_
  exact gx_sub [(0, .ref (a 0)), (1, .int (0 : Int32))] [1, 0] rfl (g_X9_pack_L12 hC 10000 (0 : Int32) (st (st S 30 0 (0 : Int32)) 30 27 (0 : Int32)))
set_option maxHeartbeats 4000000 in
set_option maxRecDepth 100000 in
theorem c_X9_section {l : Launch} {D : va_G} {tZ : Nat} (cI cZ cR : ClassId) (a : Nat → Nat) (x1 : Int32) (S : St) : MI l D (tyl cI cZ cR) tZ (wM cI cZ a) yX9_section cX9_section 2 (some .int) rm_X9_section [.ref (a 0), .int x1] S (m_X9_section x1 S) := by
  refine gx_metI (by decide) (Nat.le_of_ble_eq_true rfl) ?_
  intro p e s m below meth c A hC
  refine gx_sub [(0, .ref (a 0)), (1, .int x1)] [0, 1] rfl ?_
  rw [m_X9_section]
  refine gx_aload_n (pc' := 1) hC rfl dX9_section_0 rfl ?_
  refine gx_iconst (v := (0 : Int32)) (pc' := 2) hC rfl dX9_section_1 (by decide) ?_
  refine gx_put (pc' := 5) hC tyX9_ok nmX9 0 (atM0 cI cZ a _) rfl inw_X9 0 (by decide) lk_X9_59 rfl rfl rfl (Nat.le_of_ble_eq_true rfl) (st S 30 0 (0 : Int32)) (ptM0_0 cI cZ a _ _) rfl dX9_section_2 ?_
  refine gx_iload_n (pc' := 6) hC rfl dX9_section_5 rfl ?_
  refine gx_if_lt (pc' := 9) hC 17 rfl dX9_section_6 (by decide) (fun h1 => ?_) (fun h1 => ?_)
  · refine gx_iconst (v := (-1 : Int32)) (pc' := 18) hC rfl dX9_section_17 (by decide) ?_
    refine gx_goto hC 27 dX9_section_18 (by decide) ?_
    exact gx_iret hC dX9_section_27
  · refine gx_iload_n (pc' := 10) hC rfl dX9_section_9 rfl ?_
    refine gx_aload_n (pc' := 11) hC rfl dX9_section_10 rfl ?_
    refine gx_get (pc' := 14) hC 0 (atM0 cI cZ a _) rfl inw_X9 12 (by decide) lk_X9_143 rfl rfl dX9_section_11 ?_
    refine gx_icmp_lt (pc' := 17) hC 21 rfl dX9_section_14 (by decide) (fun h2 => ?_) (fun h2 => ?_)
    · refine gx_aload_n (pc' := 22) hC rfl dX9_section_21 rfl ?_
      refine gx_get (pc' := 25) hC 0 (atM0 cI cZ a _) rfl inw_X9 10 (by decide) lk_X9_32 rfl rfl dX9_section_22 ?_
      refine gx_iload_n (pc' := 26) hC rfl dX9_section_25 rfl ?_
      refine gx_iald (pc' := 27) hC 8 0 (atM8 cI cZ a _) rfl rfl dX9_section_26 ?_
      exact gx_iret hC dX9_section_27
    · refine gx_iconst (v := (-1 : Int32)) (pc' := 18) hC rfl dX9_section_17 (by decide) ?_
      refine gx_goto hC 27 dX9_section_18 (by decide) ?_
      exact gx_iret hC dX9_section_27
set_option maxHeartbeats 4000000 in
set_option maxRecDepth 100000 in
theorem c_X9_poke {l : Launch} {D : va_G} {tZ : Nat} (cI cZ cR : ClassId) (a : Nat → Nat) (x1 : Int32) (x2 : Int32) (S : St) : MI l D (tyl cI cZ cR) tZ (wM cI cZ a) yX9_poke cX9_poke 3 (some .boolean) rm_X9_poke [.ref (a 0), .int x1, .int x2] S (m_X9_poke x1 x2 S) := by
  refine gx_metI (by decide) (Nat.le_of_ble_eq_true rfl) ?_
  intro p e s m below meth c A hC
  refine gx_sub [(0, .ref (a 0)), (1, .int x1), (2, .int x2)] [0, 1, 2] rfl ?_
  rw [m_X9_poke]
  refine gx_aload_n (pc' := 1) hC rfl dX9_poke_0 rfl ?_
  refine gx_iconst (v := (0 : Int32)) (pc' := 2) hC rfl dX9_poke_1 (by decide) ?_
  refine gx_put (pc' := 5) hC tyX9_ok nmX9 0 (atM0 cI cZ a _) rfl inw_X9 0 (by decide) lk_X9_59 rfl rfl rfl (Nat.le_of_ble_eq_true rfl) (st S 30 0 (0 : Int32)) (ptM0_0 cI cZ a _ _) rfl dX9_poke_2 ?_
  refine gx_iload_n (pc' := 6) hC rfl dX9_poke_5 rfl ?_
  refine gx_if_lt (pc' := 9) hC 28 rfl dX9_poke_6 (by decide) (fun h1 => ?_) (fun h1 => ?_)
  · refine gx_iconst (v := (0 : Int32)) (pc' := 29) hC rfl dX9_poke_28 (by decide) ?_
    exact gx_zret hC dX9_poke_29
  · refine gx_iload_n (pc' := 10) hC rfl dX9_poke_9 rfl ?_
    refine gx_aload_n (pc' := 11) hC rfl dX9_poke_10 rfl ?_
    refine gx_get (pc' := 14) hC 0 (atM0 cI cZ a _) rfl inw_X9 12 (by decide) lk_X9_143 rfl rfl dX9_poke_11 ?_
    refine gx_icmp_ge (pc' := 17) hC 28 rfl dX9_poke_14 (by decide) (fun h2 => ?_) (fun h2 => ?_)
    · refine gx_iconst (v := (0 : Int32)) (pc' := 29) hC rfl dX9_poke_28 (by decide) ?_
      exact gx_zret hC dX9_poke_29
    · refine gx_iload_n (pc' := 18) hC rfl dX9_poke_17 rfl ?_
      refine gx_if_lt (pc' := 21) hC 28 rfl dX9_poke_18 (by decide) (fun h3 => ?_) (fun h3 => ?_)
      · refine gx_iconst (v := (0 : Int32)) (pc' := 29) hC rfl dX9_poke_28 (by decide) ?_
        exact gx_zret hC dX9_poke_29
      · refine gx_iload_n (pc' := 22) hC rfl dX9_poke_21 rfl ?_
        refine gx_sipush (v := (255 : Int32)) (pc' := 25) hC rfl dX9_poke_22 (by decide) ?_
        refine gx_icmp_le (pc' := 28) hC 30 rfl dX9_poke_25 (by decide) (fun h4 => ?_) (fun h4 => ?_)
        · refine gx_aload_n (pc' := 31) hC rfl dX9_poke_30 rfl ?_
          refine gx_get (pc' := 34) hC 0 (atM0 cI cZ a _) rfl inw_X9 10 (by decide) lk_X9_32 rfl rfl dX9_poke_31 ?_
          refine gx_iload_n (pc' := 35) hC rfl dX9_poke_34 rfl ?_
          refine gx_iload_n (pc' := 36) hC rfl dX9_poke_35 rfl ?_
          refine gx_iast (pc' := 37) hC 8 0 (atM8 cI cZ a _) rfl (st (st S 30 0 (0 : Int32)) 10 x1.toNatClampNeg x2) (stM8 cI cZ a _ _ _) rfl dX9_poke_36 ?_
          refine gx_iconst (v := (1 : Int32)) (pc' := 38) hC rfl dX9_poke_37 (by decide) ?_
          exact gx_zret hC dX9_poke_38
        · refine gx_iconst (v := (0 : Int32)) (pc' := 29) hC rfl dX9_poke_28 (by decide) ?_
          exact gx_zret hC dX9_poke_29
set_option maxHeartbeats 4000000 in
set_option maxRecDepth 100000 in
theorem g_X9_keep_L2 {p : Program} {l : Launch} {e : Env} {s : State} {m : MethodId} {args : Array Value} {below : List Frame} {meth : Method} {c : Code} {D : va_G} {cI cZ cR : ClassId} {a : Nat → Nat} {tZ : Nat} {A : Nat → Prop} (hC : CX p s m args meth c cX9_keep 3 none yX9_keep.cls D (tyl cI cZ cR) tZ A) : ∀ (n : Nat) (x1 : Int32) (x2 : Int32) (S : St), GX p l e rm_X9_keep s m args below meth c 3 D A (wM cI cZ a) (KV below D (tyl cI cZ cR) (wM cI cZ a) A args s) 2 [(0, .ref (a 0)), (1, .int x1), (2, .int x2)] [] S (m_X9_keep_L2 n x1 x2 S) := by
  intro n
  induction n with
  | zero => intro x1 x2 S; exact gx_none
  | succ n ih =>
    intro x1 x2 S
    rw [m_X9_keep_L2]
    refine gx_iload_n (pc' := 3) hC rfl dX9_keep_2 rfl ?_
    refine gx_iconst (v := (5 : Int32)) (pc' := 4) hC rfl dX9_keep_3 (by decide) ?_
    refine gx_icmp_ge (pc' := 7) hC 29 rfl dX9_keep_4 (by decide) (fun h1 => ?_) (fun h1 => ?_)
    · exact gx_vret hC dX9_keep_29
    · refine gx_iload_n (pc' := 8) hC rfl dX9_keep_7 rfl ?_
      refine gx_if_eq (pc' := 11) hC 29 rfl dX9_keep_8 (by decide) (fun h2 => ?_) (fun h2 => ?_)
      · exact gx_vret hC dX9_keep_29
      · refine gx_aload_n (pc' := 12) hC rfl dX9_keep_11 rfl ?_
        refine gx_get (pc' := 15) hC 0 (atM0 cI cZ a _) rfl inw_X9 13 (by decide) lk_X9_38 rfl rfl dX9_keep_12 ?_
        refine gx_iload_n (pc' := 16) hC rfl dX9_keep_15 rfl ?_
        refine gx_aload_n (pc' := 17) hC rfl dX9_keep_16 rfl ?_
        refine gx_get (pc' := 20) hC 0 (atM0 cI cZ a _) rfl inw_X9 14 (by decide) lk_X9_41 rfl rfl dX9_keep_17 ?_
        refine gx_iload_n (pc' := 21) hC rfl dX9_keep_20 rfl ?_
        refine gx_iald (pc' := 22) hC 11 0 (atM11 cI cZ a _) rfl rfl dX9_keep_21 ?_
        refine gx_iast (pc' := 23) hC 10 0 (atM10 cI cZ a _) rfl (st S 13 x2.toNatClampNeg (S 14 x2.toNatClampNeg)) (stM10 cI cZ a _ _ _) rfl dX9_keep_22 ?_
        refine gx_iinc (v := (x2 + (1 : Int32))) (pc' := 26) hC [(2, .int (x2 + (1 : Int32))), (0, .ref (a 0)), (1, .int x1)] rfl dX9_keep_23 rfl rfl (by decide) rfl ?_
        refine gx_goto hC 2 dX9_keep_26 (by decide) ?_
        exact gx_sub [(0, .ref (a 0)), (1, .int x1), (2, .int (x2 + (1 : Int32)))] [1, 2, 0] rfl (ih x1 (x2 + (1 : Int32)) (st S 13 x2.toNatClampNeg (S 14 x2.toNatClampNeg)))
set_option maxHeartbeats 4000000 in
set_option maxRecDepth 100000 in
theorem c_X9_keep {l : Launch} {D : va_G} {tZ : Nat} (cI cZ cR : ClassId) (a : Nat → Nat) (x1 : Int32) (S : St) : MV l D (tyl cI cZ cR) tZ (wM cI cZ a) yX9_keep cX9_keep 3 none rm_X9_keep [.ref (a 0), .int x1] S (m_X9_keep x1 S) := by
  refine gx_metV (by decide) (Nat.le_of_ble_eq_true rfl) ?_
  intro p e s m below meth c A hC
  refine gx_sub [(0, .ref (a 0)), (1, .int x1)] [0, 1] rfl ?_
  rw [m_X9_keep]
  refine gx_iconst (v := (0 : Int32)) (pc' := 1) hC rfl dX9_keep_0 (by decide) ?_
  refine gx_istore_n (pc' := 2) hC [(2, .int (0 : Int32)), (0, .ref (a 0)), (1, .int x1)] rfl dX9_keep_1 (by decide) rfl ?_
  exact gx_sub [(0, .ref (a 0)), (1, .int x1), (2, .int (0 : Int32))] [1, 2, 0] rfl (g_X9_keep_L2 hC 10000 x1 (0 : Int32) S)
