set_option maxHeartbeats 4000000 in
set_option maxRecDepth 100000 in
theorem g_X9_readProgram_L473 {p : Program} {l : Launch} {e : Env} {s : State} {m : MethodId} {args : Array Value} {below : List Frame} {meth : Method} {c : Code} {D : va_G} {cI cZ cR : ClassId} {a : Nat → Nat} {tZ : Nat} {A : Nat → Prop} (hC : CX p s m args meth c cX9_readProgram 13 (some .boolean) yX9_readProgram.cls D (tyl cI cZ cR) tZ A) (k62 : Int32 → Int32 → Int32 → Int32 → Int32 → Int32 → Int32 → St → Option (Int32 × St)) (hk62 : ∀ (x2 : Int32) (x3 : Int32) (x4 : Int32) (x5 : Int32) (x6 : Int32) (x7 : Int32) (x8 : Int32) (S : St), GX p l e rm_X9_readProgram s m args below meth c 13 D A (wM cI cZ a) (KI below D (tyl cI cZ cR) (wM cI cZ a) A args s) 62 [(0, .ref (a 0)), (2, .int x2), (3, .int x3), (4, .int x4), (5, .int x5), (6, .int x6), (7, .int x7), (8, .int x8)] [] S (k62 x2 x3 x4 x5 x6 x7 x8 S)) (x2 : Int32) (x3 : Int32) (x4 : Int32) (x5 : Int32) (x6 : Int32) (x7 : Int32) (x8 : Int32) (x10 : Int32) (S : St) : GX p l e rm_X9_readProgram s m args below meth c 13 D A (wM cI cZ a) (KI below D (tyl cI cZ cR) (wM cI cZ a) A args s) 473 [(0, .ref (a 0)), (2, .int x2), (3, .int x3), (4, .int x4), (5, .int x5), (6, .int x6), (7, .int x7), (8, .int x8), (10, .int x10)] [] S (m_X9_readProgram_L473 k62 x2 x3 x4 x5 x6 x7 x8 x10 S) := by
  rw [m_X9_readProgram_L473]
  refine gx_iload (pc' := 475) hC rfl dX9_readProgram_473 rfl ?_
  refine gx_iconst (v := (1 : Int32)) (pc' := 476) hC rfl dX9_readProgram_475 (by decide) ?_
  refine gx_iload (pc' := 478) hC rfl dX9_readProgram_476 rfl ?_
  refine gx_iadd (pc' := 479) hC rfl dX9_readProgram_478 ?_
  refine gx_iadd (pc' := 480) hC rfl dX9_readProgram_479 ?_
  refine gx_istore (pc' := 482) hC [(8, .int (x8 + ((1 : Int32) + x10))), (0, .ref (a 0)), (2, .int x2), (3, .int x3), (4, .int x4), (5, .int x5), (6, .int x6), (7, .int x7), (10, .int x10)] rfl dX9_readProgram_480 (by decide) rfl ?_
  refine gx_aload_n (pc' := 483) hC rfl dX9_readProgram_482 rfl ?_
  refine gx_iload (pc' := 485) hC rfl dX9_readProgram_483 rfl ?_
  refine gx_iload (pc' := 487) hC rfl dX9_readProgram_485 rfl ?_
  refine gx_icmp_gt (pc' := 490) hC 494 rfl dX9_readProgram_487 (by decide) (fun h31 => ?_) (fun h31 => ?_)
  · refine gx_iconst (v := (0 : Int32)) (pc' := 495) hC rfl dX9_readProgram_494 (by decide) ?_
    refine gx_callVV (pc' := 498) hC (c_X9_keep cI cZ cR a (0 : Int32) _) 0 (atM0 cI cZ a _) rfl kw_X9_146 hy_X9_keep ⟨rfl, rfl⟩ (by decide) rfl rfl (Nat.le_of_ble_eq_true rfl) rfl dX9_readProgram_495 (fun r3 => ?_)
    refine gx_goto hC 62 dX9_readProgram_498 (by decide) ?_
    exact gx_sub [(0, .ref (a 0)), (2, .int x2), (3, .int x3), (4, .int x4), (5, .int x5), (6, .int x6), (7, .int x7), (8, .int (x8 + ((1 : Int32) + x10)))] [1, 2, 3, 4, 5, 6, 7, 0] rfl (hk62 x2 x3 x4 x5 x6 x7 (x8 + ((1 : Int32) + x10)) r3.2)
  · refine gx_iconst (v := (1 : Int32)) (pc' := 491) hC rfl dX9_readProgram_490 (by decide) ?_
    refine gx_goto hC 495 dX9_readProgram_491 (by decide) ?_
    refine gx_callVV (pc' := 498) hC (c_X9_keep cI cZ cR a (1 : Int32) _) 0 (atM0 cI cZ a _) rfl kw_X9_146 hy_X9_keep ⟨rfl, rfl⟩ (by decide) rfl rfl (Nat.le_of_ble_eq_true rfl) rfl dX9_readProgram_495 (fun r4 => ?_)
    refine gx_goto hC 62 dX9_readProgram_498 (by decide) ?_
    exact gx_sub [(0, .ref (a 0)), (2, .int x2), (3, .int x3), (4, .int x4), (5, .int x5), (6, .int x6), (7, .int x7), (8, .int (x8 + ((1 : Int32) + x10)))] [1, 2, 3, 4, 5, 6, 7, 0] rfl (hk62 x2 x3 x4 x5 x6 x7 (x8 + ((1 : Int32) + x10)) r4.2)
set_option maxHeartbeats 4000000 in
set_option maxRecDepth 100000 in
theorem g_X9_readProgram_L182 {p : Program} {l : Launch} {e : Env} {s : State} {m : MethodId} {args : Array Value} {below : List Frame} {meth : Method} {c : Code} {D : va_G} {cI cZ cR : ClassId} {a : Nat → Nat} {tZ : Nat} {A : Nat → Prop} (hC : CX p s m args meth c cX9_readProgram 13 (some .boolean) yX9_readProgram.cls D (tyl cI cZ cR) tZ A) (k62 : Int32 → Int32 → Int32 → Int32 → Int32 → Int32 → Int32 → St → Option (Int32 × St)) (hk62 : ∀ (x2 : Int32) (x3 : Int32) (x4 : Int32) (x5 : Int32) (x6 : Int32) (x7 : Int32) (x8 : Int32) (S : St), GX p l e rm_X9_readProgram s m args below meth c 13 D A (wM cI cZ a) (KI below D (tyl cI cZ cR) (wM cI cZ a) A args s) 62 [(0, .ref (a 0)), (2, .int x2), (3, .int x3), (4, .int x4), (5, .int x5), (6, .int x6), (7, .int x7), (8, .int x8)] [] S (k62 x2 x3 x4 x5 x6 x7 x8 S)) (x2 : Int32) (x3 : Int32) (x4 : Int32) (x5 : Int32) (x6 : Int32) (x7 : Int32) (x8 : Int32) (x9 : Int32) (x10 : Int32) (x11 : Int32) (S : St) : GX p l e rm_X9_readProgram s m args below meth c 13 D A (wM cI cZ a) (KI below D (tyl cI cZ cR) (wM cI cZ a) A args s) 182 [(0, .ref (a 0)), (2, .int x2), (3, .int x3), (4, .int x4), (5, .int x5), (6, .int x6), (7, .int x7), (8, .int x8), (9, .int x9), (10, .int x10), (11, .int x11)] [] S (m_X9_readProgram_L182 k62 x2 x3 x4 x5 x6 x7 x8 x9 x10 x11 S) := by
  rw [m_X9_readProgram_L182]
  refine gx_iload (pc' := 184) hC rfl dX9_readProgram_182 rfl ?_
  refine gx_iload (pc' := 186) hC rfl dX9_readProgram_184 rfl ?_
  refine gx_iconst (v := (2 : Int32)) (pc' := 187) hC rfl dX9_readProgram_186 (by decide) ?_
  refine gx_icmp_ne (pc' := 190) hC 195 rfl dX9_readProgram_187 (by decide) (fun h19 => ?_) (fun h19 => ?_)
  · refine gx_iload (pc' := 192) hC rfl dX9_readProgram_190 rfl ?_
    refine gx_goto hC 200 dX9_readProgram_192 (by decide) ?_
    refine gx_iadd (pc' := 201) hC rfl dX9_readProgram_200 ?_
    refine gx_istore (pc' := 203) hC [(6, .int (x6 + x11)), (0, .ref (a 0)), (2, .int x2), (3, .int x3), (4, .int x4), (5, .int x5), (7, .int x7), (8, .int x8), (9, .int x9), (10, .int x10), (11, .int x11)] rfl dX9_readProgram_201 (by decide) rfl ?_
    refine gx_iload (pc' := 205) hC rfl dX9_readProgram_203 rfl ?_
    refine gx_iload_n (pc' := 206) hC rfl dX9_readProgram_205 rfl ?_
    refine gx_iload (pc' := 208) hC rfl dX9_readProgram_206 rfl ?_
    refine gx_iadd (pc' := 209) hC rfl dX9_readProgram_208 ?_
    refine gx_icmp_lt (pc' := 212) hC 473 rfl dX9_readProgram_209 (by decide) (fun h21 => ?_) (fun h21 => ?_)
    · exact gx_sub [(0, .ref (a 0)), (2, .int x2), (3, .int x3), (4, .int x4), (5, .int x5), (6, .int (x6 + x11)), (7, .int x7), (8, .int x8), (10, .int x10)] [1, 2, 3, 4, 5, 0, 6, 7, 9] rfl (g_X9_readProgram_L473 hC k62 hk62 x2 x3 x4 x5 (x6 + x11) x7 x8 x10 S)
    · refine gx_iconst (v := (0 : Int32)) (pc' := 213) hC rfl dX9_readProgram_212 (by decide) ?_
      exact gx_zret hC dX9_readProgram_213
  · refine gx_iload (pc' := 197) hC rfl dX9_readProgram_195 rfl ?_
    refine gx_bipush (v := (64 : Int32)) (pc' := 199) hC rfl dX9_readProgram_197 (by decide) ?_
    refine gx_isub (pc' := 200) hC rfl dX9_readProgram_199 ?_
    refine gx_iadd (pc' := 201) hC rfl dX9_readProgram_200 ?_
    refine gx_istore (pc' := 203) hC [(6, .int (x6 + (x9 - (64 : Int32)))), (0, .ref (a 0)), (2, .int x2), (3, .int x3), (4, .int x4), (5, .int x5), (7, .int x7), (8, .int x8), (9, .int x9), (10, .int x10), (11, .int x11)] rfl dX9_readProgram_201 (by decide) rfl ?_
    refine gx_iload (pc' := 205) hC rfl dX9_readProgram_203 rfl ?_
    refine gx_iload_n (pc' := 206) hC rfl dX9_readProgram_205 rfl ?_
    refine gx_iload (pc' := 208) hC rfl dX9_readProgram_206 rfl ?_
    refine gx_iadd (pc' := 209) hC rfl dX9_readProgram_208 ?_
    refine gx_icmp_lt (pc' := 212) hC 473 rfl dX9_readProgram_209 (by decide) (fun h20 => ?_) (fun h20 => ?_)
    · exact gx_sub [(0, .ref (a 0)), (2, .int x2), (3, .int x3), (4, .int x4), (5, .int x5), (6, .int (x6 + (x9 - (64 : Int32)))), (7, .int x7), (8, .int x8), (10, .int x10)] [1, 2, 3, 4, 5, 0, 6, 7, 9] rfl (g_X9_readProgram_L473 hC k62 hk62 x2 x3 x4 x5 (x6 + (x9 - (64 : Int32))) x7 x8 x10 S)
    · refine gx_iconst (v := (0 : Int32)) (pc' := 213) hC rfl dX9_readProgram_212 (by decide) ?_
      exact gx_zret hC dX9_readProgram_213
set_option maxHeartbeats 4000000 in
set_option maxRecDepth 100000 in
theorem g_X9_readProgram_L232 {p : Program} {l : Launch} {e : Env} {s : State} {m : MethodId} {args : Array Value} {below : List Frame} {meth : Method} {c : Code} {D : va_G} {cI cZ cR : ClassId} {a : Nat → Nat} {tZ : Nat} {A : Nat → Prop} (hC : CX p s m args meth c cX9_readProgram 13 (some .boolean) yX9_readProgram.cls D (tyl cI cZ cR) tZ A) (k62 : Int32 → Int32 → Int32 → Int32 → Int32 → Int32 → Int32 → St → Option (Int32 × St)) (hk62 : ∀ (x2 : Int32) (x3 : Int32) (x4 : Int32) (x5 : Int32) (x6 : Int32) (x7 : Int32) (x8 : Int32) (S : St), GX p l e rm_X9_readProgram s m args below meth c 13 D A (wM cI cZ a) (KI below D (tyl cI cZ cR) (wM cI cZ a) A args s) 62 [(0, .ref (a 0)), (2, .int x2), (3, .int x3), (4, .int x4), (5, .int x5), (6, .int x6), (7, .int x7), (8, .int x8)] [] S (k62 x2 x3 x4 x5 x6 x7 x8 S)) : ∀ (n : Nat) (x2 : Int32) (x3 : Int32) (x4 : Int32) (x5 : Int32) (x6 : Int32) (x7 : Int32) (x8 : Int32) (x10 : Int32) (x12 : Int32) (S : St), GX p l e rm_X9_readProgram s m args below meth c 13 D A (wM cI cZ a) (KI below D (tyl cI cZ cR) (wM cI cZ a) A args s) 232 [(0, .ref (a 0)), (2, .int x2), (3, .int x3), (4, .int x4), (5, .int x5), (6, .int x6), (7, .int x7), (8, .int x8), (10, .int x10), (12, .int x12)] [] S (m_X9_readProgram_L232 k62 n x2 x3 x4 x5 x6 x7 x8 x10 x12 S) := by
  intro n
  induction n with
  | zero => intro x2 x3 x4 x5 x6 x7 x8 x10 x12 S; exact gx_none
  | succ n ih =>
    intro x2 x3 x4 x5 x6 x7 x8 x10 x12 S
    rw [m_X9_readProgram_L232]
    refine gx_iload (pc' := 234) hC rfl dX9_readProgram_232 rfl ?_
    refine gx_iconst (v := (5 : Int32)) (pc' := 235) hC rfl dX9_readProgram_234 (by decide) ?_
    refine gx_icmp_ge (pc' := 238) hC 263 rfl dX9_readProgram_235 (by decide) (fun h39 => ?_) (fun h39 => ?_)
    · refine gx_iinc (v := (x7 + (1 : Int32))) (pc' := 266) hC [(7, .int (x7 + (1 : Int32))), (0, .ref (a 0)), (2, .int x2), (3, .int x3), (4, .int x4), (5, .int x5), (6, .int x6), (8, .int x8), (10, .int x10), (12, .int x12)] rfl dX9_readProgram_263 rfl rfl (by decide) rfl ?_
      refine gx_goto hC 473 dX9_readProgram_266 (by decide) ?_
      exact gx_sub [(0, .ref (a 0)), (2, .int x2), (3, .int x3), (4, .int x4), (5, .int x5), (6, .int x6), (7, .int (x7 + (1 : Int32))), (8, .int x8), (10, .int x10)] [1, 2, 3, 4, 5, 6, 0, 7, 8] rfl (g_X9_readProgram_L473 hC k62 hk62 x2 x3 x4 x5 x6 (x7 + (1 : Int32)) x8 x10 S)
    · refine gx_aload_n (pc' := 239) hC rfl dX9_readProgram_238 rfl ?_
      refine gx_get (pc' := 242) hC 0 (atM0 cI cZ a _) rfl inw_X9 15 (by decide) lk_X9_44 rfl rfl dX9_readProgram_239 ?_
      refine gx_iconst (v := (5 : Int32)) (pc' := 243) hC rfl dX9_readProgram_242 (by decide) ?_
      refine gx_iload (pc' := 245) hC rfl dX9_readProgram_243 rfl ?_
      refine gx_imul (pc' := 246) hC rfl dX9_readProgram_245 ?_
      refine gx_iload (pc' := 248) hC rfl dX9_readProgram_246 rfl ?_
      refine gx_iadd (pc' := 249) hC rfl dX9_readProgram_248 ?_
      refine gx_aload_n (pc' := 250) hC rfl dX9_readProgram_249 rfl ?_
      refine gx_get (pc' := 253) hC 0 (atM0 cI cZ a _) rfl inw_X9 14 (by decide) lk_X9_41 rfl rfl dX9_readProgram_250 ?_
      refine gx_iload (pc' := 255) hC rfl dX9_readProgram_253 rfl ?_
      refine gx_iald (pc' := 256) hC 11 0 (atM11 cI cZ a _) rfl rfl dX9_readProgram_255 ?_
      refine gx_iast (pc' := 257) hC 12 0 (atM12 cI cZ a _) rfl (st S 15 (((5 : Int32) * x7) + x12).toNatClampNeg (S 14 x12.toNatClampNeg)) (stM12 cI cZ a _ _ _) rfl dX9_readProgram_256 ?_
      refine gx_iinc (v := (x12 + (1 : Int32))) (pc' := 260) hC [(12, .int (x12 + (1 : Int32))), (0, .ref (a 0)), (2, .int x2), (3, .int x3), (4, .int x4), (5, .int x5), (6, .int x6), (7, .int x7), (8, .int x8), (10, .int x10)] rfl dX9_readProgram_257 rfl rfl (by decide) rfl ?_
      refine gx_goto hC 232 dX9_readProgram_260 (by decide) ?_
      exact gx_sub [(0, .ref (a 0)), (2, .int x2), (3, .int x3), (4, .int x4), (5, .int x5), (6, .int x6), (7, .int x7), (8, .int x8), (10, .int x10), (12, .int (x12 + (1 : Int32)))] [1, 2, 3, 4, 5, 6, 7, 8, 9, 0] rfl (ih x2 x3 x4 x5 x6 x7 x8 x10 (x12 + (1 : Int32)) (st S 15 (((5 : Int32) * x7) + x12).toNatClampNeg (S 14 x12.toNatClampNeg)))
set_option maxHeartbeats 4000000 in
set_option maxRecDepth 100000 in
theorem g_X9_readProgram_L289 {p : Program} {l : Launch} {e : Env} {s : State} {m : MethodId} {args : Array Value} {below : List Frame} {meth : Method} {c : Code} {D : va_G} {cI cZ cR : ClassId} {a : Nat → Nat} {tZ : Nat} {A : Nat → Prop} (hC : CX p s m args meth c cX9_readProgram 13 (some .boolean) yX9_readProgram.cls D (tyl cI cZ cR) tZ A) (k62 : Int32 → Int32 → Int32 → Int32 → Int32 → Int32 → Int32 → St → Option (Int32 × St)) (hk62 : ∀ (x2 : Int32) (x3 : Int32) (x4 : Int32) (x5 : Int32) (x6 : Int32) (x7 : Int32) (x8 : Int32) (S : St), GX p l e rm_X9_readProgram s m args below meth c 13 D A (wM cI cZ a) (KI below D (tyl cI cZ cR) (wM cI cZ a) A args s) 62 [(0, .ref (a 0)), (2, .int x2), (3, .int x3), (4, .int x4), (5, .int x5), (6, .int x6), (7, .int x7), (8, .int x8)] [] S (k62 x2 x3 x4 x5 x6 x7 x8 S)) : ∀ (n : Nat) (x2 : Int32) (x3 : Int32) (x4 : Int32) (x5 : Int32) (x6 : Int32) (x7 : Int32) (x8 : Int32) (x10 : Int32) (x12 : Int32) (S : St), GX p l e rm_X9_readProgram s m args below meth c 13 D A (wM cI cZ a) (KI below D (tyl cI cZ cR) (wM cI cZ a) A args s) 289 [(0, .ref (a 0)), (2, .int x2), (3, .int x3), (4, .int x4), (5, .int x5), (6, .int x6), (7, .int x7), (8, .int x8), (10, .int x10), (12, .int x12)] [] S (m_X9_readProgram_L289 k62 n x2 x3 x4 x5 x6 x7 x8 x10 x12 S) := by
  intro n
  induction n with
  | zero => intro x2 x3 x4 x5 x6 x7 x8 x10 x12 S; exact gx_none
  | succ n ih =>
    intro x2 x3 x4 x5 x6 x7 x8 x10 x12 S
    rw [m_X9_readProgram_L289]
    refine gx_iload (pc' := 291) hC rfl dX9_readProgram_289 rfl ?_
    refine gx_iconst (v := (5 : Int32)) (pc' := 292) hC rfl dX9_readProgram_291 (by decide) ?_
    refine gx_icmp_ge (pc' := 295) hC 320 rfl dX9_readProgram_292 (by decide) (fun h38 => ?_) (fun h38 => ?_)
    · refine gx_goto hC 473 dX9_readProgram_320 (by decide) ?_
      exact gx_sub [(0, .ref (a 0)), (2, .int x2), (3, .int x3), (4, .int x4), (5, .int x5), (6, .int x6), (7, .int x7), (8, .int x8), (10, .int x10)] [0, 1, 2, 3, 4, 5, 6, 7, 8] rfl (g_X9_readProgram_L473 hC k62 hk62 x2 x3 x4 x5 x6 x7 x8 x10 S)
    · refine gx_aload_n (pc' := 296) hC rfl dX9_readProgram_295 rfl ?_
      refine gx_get (pc' := 299) hC 0 (atM0 cI cZ a _) rfl inw_X9 14 (by decide) lk_X9_41 rfl rfl dX9_readProgram_296 ?_
      refine gx_iload (pc' := 301) hC rfl dX9_readProgram_299 rfl ?_
      refine gx_aload_n (pc' := 302) hC rfl dX9_readProgram_301 rfl ?_
      refine gx_get (pc' := 305) hC 0 (atM0 cI cZ a _) rfl inw_X9 15 (by decide) lk_X9_44 rfl rfl dX9_readProgram_302 ?_
      refine gx_iconst (v := (5 : Int32)) (pc' := 306) hC rfl dX9_readProgram_305 (by decide) ?_
      refine gx_iload (pc' := 308) hC rfl dX9_readProgram_306 rfl ?_
      refine gx_imul (pc' := 309) hC rfl dX9_readProgram_308 ?_
      refine gx_iload (pc' := 311) hC rfl dX9_readProgram_309 rfl ?_
      refine gx_iadd (pc' := 312) hC rfl dX9_readProgram_311 ?_
      refine gx_iald (pc' := 313) hC 12 0 (atM12 cI cZ a _) rfl rfl dX9_readProgram_312 ?_
      refine gx_iast (pc' := 314) hC 11 0 (atM11 cI cZ a _) rfl (st S 14 x12.toNatClampNeg (S 15 (((5 : Int32) * x7) + x12).toNatClampNeg)) (stM11 cI cZ a _ _ _) rfl dX9_readProgram_313 ?_
      refine gx_iinc (v := (x12 + (1 : Int32))) (pc' := 317) hC [(12, .int (x12 + (1 : Int32))), (0, .ref (a 0)), (2, .int x2), (3, .int x3), (4, .int x4), (5, .int x5), (6, .int x6), (7, .int x7), (8, .int x8), (10, .int x10)] rfl dX9_readProgram_314 rfl rfl (by decide) rfl ?_
      refine gx_goto hC 289 dX9_readProgram_317 (by decide) ?_
      exact gx_sub [(0, .ref (a 0)), (2, .int x2), (3, .int x3), (4, .int x4), (5, .int x5), (6, .int x6), (7, .int x7), (8, .int x8), (10, .int x10), (12, .int (x12 + (1 : Int32)))] [1, 2, 3, 4, 5, 6, 7, 8, 9, 0] rfl (ih x2 x3 x4 x5 x6 x7 x8 x10 (x12 + (1 : Int32)) (st S 14 x12.toNatClampNeg (S 15 (((5 : Int32) * x7) + x12).toNatClampNeg)))
set_option maxHeartbeats 4000000 in
set_option maxRecDepth 100000 in
theorem g_X9_readProgram_L337 {p : Program} {l : Launch} {e : Env} {s : State} {m : MethodId} {args : Array Value} {below : List Frame} {meth : Method} {c : Code} {D : va_G} {cI cZ cR : ClassId} {a : Nat → Nat} {tZ : Nat} {A : Nat → Prop} (hC : CX p s m args meth c cX9_readProgram 13 (some .boolean) yX9_readProgram.cls D (tyl cI cZ cR) tZ A) (k62 : Int32 → Int32 → Int32 → Int32 → Int32 → Int32 → Int32 → St → Option (Int32 × St)) (hk62 : ∀ (x2 : Int32) (x3 : Int32) (x4 : Int32) (x5 : Int32) (x6 : Int32) (x7 : Int32) (x8 : Int32) (S : St), GX p l e rm_X9_readProgram s m args below meth c 13 D A (wM cI cZ a) (KI below D (tyl cI cZ cR) (wM cI cZ a) A args s) 62 [(0, .ref (a 0)), (2, .int x2), (3, .int x3), (4, .int x4), (5, .int x5), (6, .int x6), (7, .int x7), (8, .int x8)] [] S (k62 x2 x3 x4 x5 x6 x7 x8 S)) (x2 : Int32) (x3 : Int32) (x4 : Int32) (x5 : Int32) (x6 : Int32) (x7 : Int32) (x8 : Int32) (x9 : Int32) (x10 : Int32) (x11 : Int32) (S : St) : GX p l e rm_X9_readProgram s m args below meth c 13 D A (wM cI cZ a) (KI below D (tyl cI cZ cR) (wM cI cZ a) A args s) 337 [(0, .ref (a 0)), (2, .int x2), (3, .int x3), (4, .int x4), (5, .int x5), (6, .int x6), (7, .int x7), (8, .int x8), (9, .int x9), (10, .int x10), (11, .int x11)] [] S (m_X9_readProgram_L337 k62 x2 x3 x4 x5 x6 x7 x8 x9 x10 x11 S) := by
  rw [m_X9_readProgram_L337]
  refine gx_iload (pc' := 339) hC rfl dX9_readProgram_337 rfl ?_
  refine gx_iconst (v := (1 : Int32)) (pc' := 340) hC rfl dX9_readProgram_339 (by decide) ?_
  refine gx_icmp_le (pc' := 343) hC 345 rfl dX9_readProgram_340 (by decide) (fun h32 => ?_) (fun h32 => ?_)
  · refine gx_aload_n (pc' := 346) hC rfl dX9_readProgram_345 rfl ?_
    refine gx_get (pc' := 349) hC 0 (atM0 cI cZ a _) rfl inw_X9 14 (by decide) lk_X9_41 rfl rfl dX9_readProgram_346 ?_
    refine gx_iconst (v := (0 : Int32)) (pc' := 350) hC rfl dX9_readProgram_349 (by decide) ?_
    refine gx_iload (pc' := 352) hC rfl dX9_readProgram_350 rfl ?_
    refine gx_iast (pc' := 353) hC 11 0 (atM11 cI cZ a _) rfl (st S 14 (0 : Int32).toNatClampNeg x11) (stM11 cI cZ a _ _ _) rfl dX9_readProgram_352 ?_
    refine gx_aload_n (pc' := 354) hC rfl dX9_readProgram_353 rfl ?_
    refine gx_get (pc' := 357) hC 0 (atM0 cI cZ a _) rfl inw_X9 14 (by decide) lk_X9_41 rfl rfl dX9_readProgram_354 ?_
    refine gx_iconst (v := (1 : Int32)) (pc' := 358) hC rfl dX9_readProgram_357 (by decide) ?_
    refine gx_iload (pc' := 360) hC rfl dX9_readProgram_358 rfl ?_
    refine gx_bipush (v := (12 : Int32)) (pc' := 362) hC rfl dX9_readProgram_360 (by decide) ?_
    refine gx_icmp_ne (pc' := 365) hC 377 rfl dX9_readProgram_362 (by decide) (fun h33 => ?_) (fun h33 => ?_)
    · refine gx_aload_n (pc' := 366) hC rfl dX9_readProgram_365 rfl ?_
      refine gx_get (pc' := 369) hC 0 (atM0 cI cZ a _) rfl inw_X9 10 (by decide) lk_X9_32 rfl rfl dX9_readProgram_366 ?_
      refine gx_iload (pc' := 371) hC rfl dX9_readProgram_369 rfl ?_
      refine gx_iconst (v := (2 : Int32)) (pc' := 372) hC rfl dX9_readProgram_371 (by decide) ?_
      refine gx_iadd (pc' := 373) hC rfl dX9_readProgram_372 ?_
      refine gx_iald (pc' := 374) hC 8 0 (atM8 cI cZ a _) rfl rfl dX9_readProgram_373 ?_
      refine gx_goto hC 383 dX9_readProgram_374 (by decide) ?_
      refine gx_iast (pc' := 384) hC 11 0 (atM11 cI cZ a _) rfl (st (st S 14 (0 : Int32).toNatClampNeg x11) 14 (1 : Int32).toNatClampNeg ((st S 14 (0 : Int32).toNatClampNeg x11) 10 (x8 + (2 : Int32)).toNatClampNeg)) (stM11 cI cZ a _ _ _) rfl dX9_readProgram_383 ?_
      refine gx_goto hC 473 dX9_readProgram_384 (by decide) ?_
      exact gx_sub [(0, .ref (a 0)), (2, .int x2), (3, .int x3), (4, .int x4), (5, .int x5), (6, .int x6), (7, .int x7), (8, .int x8), (10, .int x10)] [0, 1, 2, 3, 4, 5, 6, 7, 9] rfl (g_X9_readProgram_L473 hC k62 hk62 x2 x3 x4 x5 x6 x7 x8 x10 (st (st S 14 (0 : Int32).toNatClampNeg x11) 14 (1 : Int32).toNatClampNeg ((st S 14 (0 : Int32).toNatClampNeg x11) 10 (x8 + (2 : Int32)).toNatClampNeg)))
    · refine gx_aload_n (pc' := 378) hC rfl dX9_readProgram_377 rfl ?_
      refine gx_get (pc' := 381) hC 0 (atM0 cI cZ a _) rfl inw_X9 14 (by decide) lk_X9_41 rfl rfl dX9_readProgram_378 ?_
      refine gx_iconst (v := (1 : Int32)) (pc' := 382) hC rfl dX9_readProgram_381 (by decide) ?_
      refine gx_iald (pc' := 383) hC 11 0 (atM11 cI cZ a _) rfl rfl dX9_readProgram_382 ?_
      refine gx_iast (pc' := 384) hC 11 0 (atM11 cI cZ a _) rfl (st (st S 14 (0 : Int32).toNatClampNeg x11) 14 (1 : Int32).toNatClampNeg ((st S 14 (0 : Int32).toNatClampNeg x11) 14 (1 : Int32).toNatClampNeg)) (stM11 cI cZ a _ _ _) rfl dX9_readProgram_383 ?_
      refine gx_goto hC 473 dX9_readProgram_384 (by decide) ?_
      exact gx_sub [(0, .ref (a 0)), (2, .int x2), (3, .int x3), (4, .int x4), (5, .int x5), (6, .int x6), (7, .int x7), (8, .int x8), (10, .int x10)] [0, 1, 2, 3, 4, 5, 6, 7, 9] rfl (g_X9_readProgram_L473 hC k62 hk62 x2 x3 x4 x5 x6 x7 x8 x10 (st (st S 14 (0 : Int32).toNatClampNeg x11) 14 (1 : Int32).toNatClampNeg ((st S 14 (0 : Int32).toNatClampNeg x11) 14 (1 : Int32).toNatClampNeg)))
  · refine gx_iconst (v := (0 : Int32)) (pc' := 344) hC rfl dX9_readProgram_343 (by decide) ?_
    exact gx_zret hC dX9_readProgram_344
set_option maxHeartbeats 4000000 in
set_option maxRecDepth 100000 in
theorem g_X9_readProgram_L435 {p : Program} {l : Launch} {e : Env} {s : State} {m : MethodId} {args : Array Value} {below : List Frame} {meth : Method} {c : Code} {D : va_G} {cI cZ cR : ClassId} {a : Nat → Nat} {tZ : Nat} {A : Nat → Prop} (hC : CX p s m args meth c cX9_readProgram 13 (some .boolean) yX9_readProgram.cls D (tyl cI cZ cR) tZ A) (k62 : Int32 → Int32 → Int32 → Int32 → Int32 → Int32 → Int32 → St → Option (Int32 × St)) (hk62 : ∀ (x2 : Int32) (x3 : Int32) (x4 : Int32) (x5 : Int32) (x6 : Int32) (x7 : Int32) (x8 : Int32) (S : St), GX p l e rm_X9_readProgram s m args below meth c 13 D A (wM cI cZ a) (KI below D (tyl cI cZ cR) (wM cI cZ a) A args s) 62 [(0, .ref (a 0)), (2, .int x2), (3, .int x3), (4, .int x4), (5, .int x5), (6, .int x6), (7, .int x7), (8, .int x8)] [] S (k62 x2 x3 x4 x5 x6 x7 x8 S)) (x2 : Int32) (x3 : Int32) (x4 : Int32) (x5 : Int32) (x6 : Int32) (x7 : Int32) (x8 : Int32) (x9 : Int32) (x10 : Int32) (S : St) : GX p l e rm_X9_readProgram s m args below meth c 13 D A (wM cI cZ a) (KI below D (tyl cI cZ cR) (wM cI cZ a) A args s) 435 [(0, .ref (a 0)), (2, .int x2), (3, .int x3), (4, .int x4), (5, .int x5), (6, .int x6), (7, .int x7), (8, .int x8), (9, .int x9), (10, .int x10)] [] S (m_X9_readProgram_L435 k62 x2 x3 x4 x5 x6 x7 x8 x9 x10 S) := by
  rw [m_X9_readProgram_L435]
  refine gx_iload (pc' := 437) hC rfl dX9_readProgram_435 rfl ?_
  refine gx_sipush (v := (191 : Int32)) (pc' := 440) hC rfl dX9_readProgram_437 (by decide) ?_
  refine gx_icmp_le (pc' := 443) hC 466 rfl dX9_readProgram_440 (by decide) (fun h34 => ?_) (fun h34 => ?_)
  · refine gx_iload (pc' := 468) hC rfl dX9_readProgram_466 rfl ?_
    refine gx_if_eq (pc' := 471) hC 473 rfl dX9_readProgram_468 (by decide) (fun h35 => ?_) (fun h35 => ?_)
    · exact gx_sub [(0, .ref (a 0)), (2, .int x2), (3, .int x3), (4, .int x4), (5, .int x5), (6, .int x6), (7, .int x7), (8, .int x8), (10, .int x10)] [0, 1, 2, 3, 4, 5, 6, 7, 9] rfl (g_X9_readProgram_L473 hC k62 hk62 x2 x3 x4 x5 x6 x7 x8 x10 S)
    · refine gx_iconst (v := (0 : Int32)) (pc' := 472) hC rfl dX9_readProgram_471 (by decide) ?_
      exact gx_zret hC dX9_readProgram_472
  · refine gx_iload (pc' := 445) hC rfl dX9_readProgram_443 rfl ?_
    refine gx_sipush (v := (195 : Int32)) (pc' := 448) hC rfl dX9_readProgram_445 (by decide) ?_
    refine gx_icmp_ge (pc' := 451) hC 466 rfl dX9_readProgram_448 (by decide) (fun h36 => ?_) (fun h36 => ?_)
    · refine gx_iload (pc' := 468) hC rfl dX9_readProgram_466 rfl ?_
      refine gx_if_eq (pc' := 471) hC 473 rfl dX9_readProgram_468 (by decide) (fun h37 => ?_) (fun h37 => ?_)
      · exact gx_sub [(0, .ref (a 0)), (2, .int x2), (3, .int x3), (4, .int x4), (5, .int x5), (6, .int x6), (7, .int x7), (8, .int x8), (10, .int x10)] [0, 1, 2, 3, 4, 5, 6, 7, 9] rfl (g_X9_readProgram_L473 hC k62 hk62 x2 x3 x4 x5 x6 x7 x8 x10 S)
      · refine gx_iconst (v := (0 : Int32)) (pc' := 472) hC rfl dX9_readProgram_471 (by decide) ?_
        exact gx_zret hC dX9_readProgram_472
    · refine gx_aload_n (pc' := 452) hC rfl dX9_readProgram_451 rfl ?_
      refine gx_get (pc' := 455) hC 0 (atM0 cI cZ a _) rfl inw_X9 14 (by decide) lk_X9_41 rfl rfl dX9_readProgram_452 ?_
      refine gx_iload (pc' := 457) hC rfl dX9_readProgram_455 rfl ?_
      refine gx_sipush (v := (190 : Int32)) (pc' := 460) hC rfl dX9_readProgram_457 (by decide) ?_
      refine gx_isub (pc' := 461) hC rfl dX9_readProgram_460 ?_
      refine gx_iconst (v := (0 : Int32)) (pc' := 462) hC rfl dX9_readProgram_461 (by decide) ?_
      refine gx_iast (pc' := 463) hC 11 0 (atM11 cI cZ a _) rfl (st S 14 (x9 - (190 : Int32)).toNatClampNeg (0 : Int32)) (stM11 cI cZ a _ _ _) rfl dX9_readProgram_462 ?_
      refine gx_goto hC 473 dX9_readProgram_463 (by decide) ?_
      exact gx_sub [(0, .ref (a 0)), (2, .int x2), (3, .int x3), (4, .int x4), (5, .int x5), (6, .int x6), (7, .int x7), (8, .int x8), (10, .int x10)] [0, 1, 2, 3, 4, 5, 6, 7, 9] rfl (g_X9_readProgram_L473 hC k62 hk62 x2 x3 x4 x5 x6 x7 x8 x10 (st S 14 (x9 - (190 : Int32)).toNatClampNeg (0 : Int32)))
set_option maxHeartbeats 4000000 in
set_option maxRecDepth 100000 in
theorem g_X9_readProgram_L214 {p : Program} {l : Launch} {e : Env} {s : State} {m : MethodId} {args : Array Value} {below : List Frame} {meth : Method} {c : Code} {D : va_G} {cI cZ cR : ClassId} {a : Nat → Nat} {tZ : Nat} {A : Nat → Prop} (hC : CX p s m args meth c cX9_readProgram 13 (some .boolean) yX9_readProgram.cls D (tyl cI cZ cR) tZ A) (k62 : Int32 → Int32 → Int32 → Int32 → Int32 → Int32 → Int32 → St → Option (Int32 × St)) (hk62 : ∀ (x2 : Int32) (x3 : Int32) (x4 : Int32) (x5 : Int32) (x6 : Int32) (x7 : Int32) (x8 : Int32) (S : St), GX p l e rm_X9_readProgram s m args below meth c 13 D A (wM cI cZ a) (KI below D (tyl cI cZ cR) (wM cI cZ a) A args s) 62 [(0, .ref (a 0)), (2, .int x2), (3, .int x3), (4, .int x4), (5, .int x5), (6, .int x6), (7, .int x7), (8, .int x8)] [] S (k62 x2 x3 x4 x5 x6 x7 x8 S)) (x2 : Int32) (x3 : Int32) (x4 : Int32) (x5 : Int32) (x6 : Int32) (x7 : Int32) (x8 : Int32) (x9 : Int32) (x10 : Int32) (x11 : Int32) (S : St) : GX p l e rm_X9_readProgram s m args below meth c 13 D A (wM cI cZ a) (KI below D (tyl cI cZ cR) (wM cI cZ a) A args s) 214 [(0, .ref (a 0)), (2, .int x2), (3, .int x3), (4, .int x4), (5, .int x5), (6, .int x6), (7, .int x7), (8, .int x8), (9, .int x9), (10, .int x10), (11, .int x11)] [] S (m_X9_readProgram_L214 k62 x2 x3 x4 x5 x6 x7 x8 x9 x10 x11 S) := by
  rw [m_X9_readProgram_L214]
  refine gx_iload (pc' := 216) hC rfl dX9_readProgram_214 rfl ?_
  refine gx_bipush (v := (10 : Int32)) (pc' := 218) hC rfl dX9_readProgram_216 (by decide) ?_
  refine gx_icmp_ne (pc' := 221) hC 269 rfl dX9_readProgram_218 (by decide) (fun h22 => ?_) (fun h22 => ?_)
  · refine gx_iload (pc' := 223) hC rfl dX9_readProgram_221 rfl ?_
    refine gx_iconst (v := (4 : Int32)) (pc' := 224) hC rfl dX9_readProgram_223 (by decide) ?_
    refine gx_icmp_ne (pc' := 227) hC 229 rfl dX9_readProgram_224 (by decide) (fun h30 => ?_) (fun h30 => ?_)
    · refine gx_iconst (v := (0 : Int32)) (pc' := 228) hC rfl dX9_readProgram_227 (by decide) ?_
      exact gx_zret hC dX9_readProgram_228
    · refine gx_iconst (v := (0 : Int32)) (pc' := 230) hC rfl dX9_readProgram_229 (by decide) ?_
      refine gx_istore (pc' := 232) hC [(12, .int (0 : Int32)), (0, .ref (a 0)), (2, .int x2), (3, .int x3), (4, .int x4), (5, .int x5), (6, .int x6), (7, .int x7), (8, .int x8), (9, .int x9), (10, .int x10), (11, .int x11)] rfl dX9_readProgram_230 (by decide) rfl ?_
      exact gx_sub [(0, .ref (a 0)), (2, .int x2), (3, .int x3), (4, .int x4), (5, .int x5), (6, .int x6), (7, .int x7), (8, .int x8), (10, .int x10), (12, .int (0 : Int32))] [1, 2, 3, 4, 5, 6, 7, 8, 10, 0] rfl (g_X9_readProgram_L232 hC k62 hk62 10000 x2 x3 x4 x5 x6 x7 x8 x10 (0 : Int32) S)
  · refine gx_iload (pc' := 271) hC rfl dX9_readProgram_269 rfl ?_
    refine gx_bipush (v := (11 : Int32)) (pc' := 273) hC rfl dX9_readProgram_271 (by decide) ?_
    refine gx_icmp_ne (pc' := 276) hC 323 rfl dX9_readProgram_273 (by decide) (fun h23 => ?_) (fun h23 => ?_)
    · refine gx_iload (pc' := 278) hC rfl dX9_readProgram_276 rfl ?_
      refine gx_if_ne (pc' := 281) hC 283 rfl dX9_readProgram_278 (by decide) (fun h29 => ?_) (fun h29 => ?_)
      · refine gx_iconst (v := (0 : Int32)) (pc' := 282) hC rfl dX9_readProgram_281 (by decide) ?_
        exact gx_zret hC dX9_readProgram_282
      · refine gx_iinc (v := (x7 + (-1 : Int32))) (pc' := 286) hC [(7, .int (x7 + (-1 : Int32))), (0, .ref (a 0)), (2, .int x2), (3, .int x3), (4, .int x4), (5, .int x5), (6, .int x6), (8, .int x8), (9, .int x9), (10, .int x10), (11, .int x11)] rfl dX9_readProgram_283 rfl rfl (by decide) rfl ?_
        refine gx_iconst (v := (0 : Int32)) (pc' := 287) hC rfl dX9_readProgram_286 (by decide) ?_
        refine gx_istore (pc' := 289) hC [(12, .int (0 : Int32)), (7, .int (x7 + (-1 : Int32))), (0, .ref (a 0)), (2, .int x2), (3, .int x3), (4, .int x4), (5, .int x5), (6, .int x6), (8, .int x8), (9, .int x9), (10, .int x10), (11, .int x11)] rfl dX9_readProgram_287 (by decide) rfl ?_
        exact gx_sub [(0, .ref (a 0)), (2, .int x2), (3, .int x3), (4, .int x4), (5, .int x5), (6, .int x6), (7, .int (x7 + (-1 : Int32))), (8, .int x8), (10, .int x10), (12, .int (0 : Int32))] [2, 3, 4, 5, 6, 7, 1, 8, 10, 0] rfl (g_X9_readProgram_L289 hC k62 hk62 10000 x2 x3 x4 x5 x6 (x7 + (-1 : Int32)) x8 x10 (0 : Int32) S)
    · refine gx_iload (pc' := 325) hC rfl dX9_readProgram_323 rfl ?_
      refine gx_bipush (v := (12 : Int32)) (pc' := 327) hC rfl dX9_readProgram_325 (by decide) ?_
      refine gx_icmp_eq (pc' := 330) hC 337 rfl dX9_readProgram_327 (by decide) (fun h24 => ?_) (fun h24 => ?_)
      · exact gx_sub [(0, .ref (a 0)), (2, .int x2), (3, .int x3), (4, .int x4), (5, .int x5), (6, .int x6), (7, .int x7), (8, .int x8), (9, .int x9), (10, .int x10), (11, .int x11)] [0, 1, 2, 3, 4, 5, 6, 7, 8, 9, 10] rfl (g_X9_readProgram_L337 hC k62 hk62 x2 x3 x4 x5 x6 x7 x8 x9 x10 x11 S)
      · refine gx_iload (pc' := 332) hC rfl dX9_readProgram_330 rfl ?_
        refine gx_bipush (v := (13 : Int32)) (pc' := 334) hC rfl dX9_readProgram_332 (by decide) ?_
        refine gx_icmp_ne (pc' := 337) hC 387 rfl dX9_readProgram_334 (by decide) (fun h25 => ?_) (fun h25 => ?_)
        · exact gx_sub [(0, .ref (a 0)), (2, .int x2), (3, .int x3), (4, .int x4), (5, .int x5), (6, .int x6), (7, .int x7), (8, .int x8), (9, .int x9), (10, .int x10), (11, .int x11)] [0, 1, 2, 3, 4, 5, 6, 7, 8, 9, 10] rfl (g_X9_readProgram_L337 hC k62 hk62 x2 x3 x4 x5 x6 x7 x8 x9 x10 x11 S)
        · refine gx_iload (pc' := 389) hC rfl dX9_readProgram_387 rfl ?_
          refine gx_bipush (v := (14 : Int32)) (pc' := 391) hC rfl dX9_readProgram_389 (by decide) ?_
          refine gx_icmp_ne (pc' := 394) hC 405 rfl dX9_readProgram_391 (by decide) (fun h26 => ?_) (fun h26 => ?_)
          · refine gx_aload_n (pc' := 395) hC rfl dX9_readProgram_394 rfl ?_
            refine gx_get (pc' := 398) hC 0 (atM0 cI cZ a _) rfl inw_X9 14 (by decide) lk_X9_41 rfl rfl dX9_readProgram_395 ?_
            refine gx_iconst (v := (1 : Int32)) (pc' := 399) hC rfl dX9_readProgram_398 (by decide) ?_
            refine gx_iload (pc' := 401) hC rfl dX9_readProgram_399 rfl ?_
            refine gx_iast (pc' := 402) hC 11 0 (atM11 cI cZ a _) rfl (st S 14 (1 : Int32).toNatClampNeg x11) (stM11 cI cZ a _ _ _) rfl dX9_readProgram_401 ?_
            refine gx_goto hC 473 dX9_readProgram_402 (by decide) ?_
            exact gx_sub [(0, .ref (a 0)), (2, .int x2), (3, .int x3), (4, .int x4), (5, .int x5), (6, .int x6), (7, .int x7), (8, .int x8), (10, .int x10)] [0, 1, 2, 3, 4, 5, 6, 7, 9] rfl (g_X9_readProgram_L473 hC k62 hk62 x2 x3 x4 x5 x6 x7 x8 x10 (st S 14 (1 : Int32).toNatClampNeg x11))
          · refine gx_iload (pc' := 407) hC rfl dX9_readProgram_405 rfl ?_
            refine gx_bipush (v := (127 : Int32)) (pc' := 409) hC rfl dX9_readProgram_407 (by decide) ?_
            refine gx_icmp_le (pc' := 412) hC 435 rfl dX9_readProgram_409 (by decide) (fun h27 => ?_) (fun h27 => ?_)
            · exact gx_sub [(0, .ref (a 0)), (2, .int x2), (3, .int x3), (4, .int x4), (5, .int x5), (6, .int x6), (7, .int x7), (8, .int x8), (9, .int x9), (10, .int x10)] [0, 1, 2, 3, 4, 5, 6, 7, 8, 9] rfl (g_X9_readProgram_L435 hC k62 hk62 x2 x3 x4 x5 x6 x7 x8 x9 x10 S)
            · refine gx_iload (pc' := 414) hC rfl dX9_readProgram_412 rfl ?_
              refine gx_sipush (v := (131 : Int32)) (pc' := 417) hC rfl dX9_readProgram_414 (by decide) ?_
              refine gx_icmp_ge (pc' := 420) hC 435 rfl dX9_readProgram_417 (by decide) (fun h28 => ?_) (fun h28 => ?_)
              · exact gx_sub [(0, .ref (a 0)), (2, .int x2), (3, .int x3), (4, .int x4), (5, .int x5), (6, .int x6), (7, .int x7), (8, .int x8), (9, .int x9), (10, .int x10)] [0, 1, 2, 3, 4, 5, 6, 7, 8, 9] rfl (g_X9_readProgram_L435 hC k62 hk62 x2 x3 x4 x5 x6 x7 x8 x9 x10 S)
              · refine gx_aload_n (pc' := 421) hC rfl dX9_readProgram_420 rfl ?_
                refine gx_get (pc' := 424) hC 0 (atM0 cI cZ a _) rfl inw_X9 14 (by decide) lk_X9_41 rfl rfl dX9_readProgram_421 ?_
                refine gx_iload (pc' := 426) hC rfl dX9_readProgram_424 rfl ?_
                refine gx_bipush (v := (126 : Int32)) (pc' := 428) hC rfl dX9_readProgram_426 (by decide) ?_
                refine gx_isub (pc' := 429) hC rfl dX9_readProgram_428 ?_
                refine gx_iload (pc' := 431) hC rfl dX9_readProgram_429 rfl ?_
                refine gx_iast (pc' := 432) hC 11 0 (atM11 cI cZ a _) rfl (st S 14 (x9 - (126 : Int32)).toNatClampNeg x11) (stM11 cI cZ a _ _ _) rfl dX9_readProgram_431 ?_
                refine gx_goto hC 473 dX9_readProgram_432 (by decide) ?_
                exact gx_sub [(0, .ref (a 0)), (2, .int x2), (3, .int x3), (4, .int x4), (5, .int x5), (6, .int x6), (7, .int x7), (8, .int x8), (10, .int x10)] [0, 1, 2, 3, 4, 5, 6, 7, 9] rfl (g_X9_readProgram_L473 hC k62 hk62 x2 x3 x4 x5 x6 x7 x8 x10 (st S 14 (x9 - (126 : Int32)).toNatClampNeg x11))
set_option maxHeartbeats 4000000 in
set_option maxRecDepth 100000 in
theorem g_X9_readProgram_L128 {p : Program} {l : Launch} {e : Env} {s : State} {m : MethodId} {args : Array Value} {below : List Frame} {meth : Method} {c : Code} {D : va_G} {cI cZ cR : ClassId} {a : Nat → Nat} {tZ : Nat} {A : Nat → Prop} (hC : CX p s m args meth c cX9_readProgram 13 (some .boolean) yX9_readProgram.cls D (tyl cI cZ cR) tZ A) (k62 : Int32 → Int32 → Int32 → Int32 → Int32 → Int32 → Int32 → St → Option (Int32 × St)) (hk62 : ∀ (x2 : Int32) (x3 : Int32) (x4 : Int32) (x5 : Int32) (x6 : Int32) (x7 : Int32) (x8 : Int32) (S : St), GX p l e rm_X9_readProgram s m args below meth c 13 D A (wM cI cZ a) (KI below D (tyl cI cZ cR) (wM cI cZ a) A args s) 62 [(0, .ref (a 0)), (2, .int x2), (3, .int x3), (4, .int x4), (5, .int x5), (6, .int x6), (7, .int x7), (8, .int x8)] [] S (k62 x2 x3 x4 x5 x6 x7 x8 S)) (x2 : Int32) (x3 : Int32) (x4 : Int32) (x5 : Int32) (x6 : Int32) (x7 : Int32) (x8 : Int32) (x9 : Int32) (z0 : Int32) (S : St) : GX p l e rm_X9_readProgram s m args below meth c 13 D A (wM cI cZ a) (KI below D (tyl cI cZ cR) (wM cI cZ a) A args s) 128 [(0, .ref (a 0)), (2, .int x2), (3, .int x3), (4, .int x4), (5, .int x5), (6, .int x6), (7, .int x7), (8, .int x8), (9, .int x9)] [.int z0] S (m_X9_readProgram_L128 k62 x2 x3 x4 x5 x6 x7 x8 x9 z0 S) := by
  rw [m_X9_readProgram_L128]
  refine gx_istore (pc' := 130) hC [(10, .int z0), (0, .ref (a 0)), (2, .int x2), (3, .int x3), (4, .int x4), (5, .int x5), (6, .int x6), (7, .int x7), (8, .int x8), (9, .int x9)] rfl dX9_readProgram_128 (by decide) rfl ?_
  refine gx_iload (pc' := 132) hC rfl dX9_readProgram_130 rfl ?_
  refine gx_iload (pc' := 134) hC rfl dX9_readProgram_132 rfl ?_
  refine gx_iadd (pc' := 135) hC rfl dX9_readProgram_134 ?_
  refine gx_iload_n (pc' := 136) hC rfl dX9_readProgram_135 rfl ?_
  refine gx_icmp_lt (pc' := 139) hC 141 rfl dX9_readProgram_136 (by decide) (fun h11 => ?_) (fun h11 => ?_)
  · refine gx_iload (pc' := 143) hC rfl dX9_readProgram_141 rfl ?_
    refine gx_if_le (pc' := 146) hC 158 rfl dX9_readProgram_143 (by decide) (fun h12 => ?_) (fun h12 => ?_)
    · refine gx_iconst (v := (0 : Int32)) (pc' := 159) hC rfl dX9_readProgram_158 (by decide) ?_
      refine gx_istore (pc' := 161) hC [(11, .int (0 : Int32)), (10, .int z0), (0, .ref (a 0)), (2, .int x2), (3, .int x3), (4, .int x4), (5, .int x5), (6, .int x6), (7, .int x7), (8, .int x8), (9, .int x9)] rfl dX9_readProgram_159 (by decide) rfl ?_
      refine gx_iload (pc' := 163) hC rfl dX9_readProgram_161 rfl ?_
      refine gx_iconst (v := (2 : Int32)) (pc' := 164) hC rfl dX9_readProgram_163 (by decide) ?_
      refine gx_icmp_eq (pc' := 167) hC 182 rfl dX9_readProgram_164 (by decide) (fun h13 => ?_) (fun h13 => ?_)
      · exact gx_sub [(0, .ref (a 0)), (2, .int x2), (3, .int x3), (4, .int x4), (5, .int x5), (6, .int x6), (7, .int x7), (8, .int x8), (9, .int x9), (10, .int z0), (11, .int (0 : Int32))] [2, 3, 4, 5, 6, 7, 8, 9, 10, 1, 0] rfl (g_X9_readProgram_L182 hC k62 hk62 x2 x3 x4 x5 x6 x7 x8 x9 z0 (0 : Int32) S)
      · refine gx_iload (pc' := 169) hC rfl dX9_readProgram_167 rfl ?_
        refine gx_bipush (v := (63 : Int32)) (pc' := 171) hC rfl dX9_readProgram_169 (by decide) ?_
        refine gx_icmp_le (pc' := 174) hC 214 rfl dX9_readProgram_171 (by decide) (fun h14 => ?_) (fun h14 => ?_)
        · exact gx_sub [(0, .ref (a 0)), (2, .int x2), (3, .int x3), (4, .int x4), (5, .int x5), (6, .int x6), (7, .int x7), (8, .int x8), (9, .int x9), (10, .int z0), (11, .int (0 : Int32))] [2, 3, 4, 5, 6, 7, 8, 9, 10, 1, 0] rfl (g_X9_readProgram_L214 hC k62 hk62 x2 x3 x4 x5 x6 x7 x8 x9 z0 (0 : Int32) S)
        · refine gx_iload (pc' := 176) hC rfl dX9_readProgram_174 rfl ?_
          refine gx_sipush (v := (128 : Int32)) (pc' := 179) hC rfl dX9_readProgram_176 (by decide) ?_
          refine gx_icmp_ge (pc' := 182) hC 214 rfl dX9_readProgram_179 (by decide) (fun h15 => ?_) (fun h15 => ?_)
          · exact gx_sub [(0, .ref (a 0)), (2, .int x2), (3, .int x3), (4, .int x4), (5, .int x5), (6, .int x6), (7, .int x7), (8, .int x8), (9, .int x9), (10, .int z0), (11, .int (0 : Int32))] [2, 3, 4, 5, 6, 7, 8, 9, 10, 1, 0] rfl (g_X9_readProgram_L214 hC k62 hk62 x2 x3 x4 x5 x6 x7 x8 x9 z0 (0 : Int32) S)
          · exact gx_sub [(0, .ref (a 0)), (2, .int x2), (3, .int x3), (4, .int x4), (5, .int x5), (6, .int x6), (7, .int x7), (8, .int x8), (9, .int x9), (10, .int z0), (11, .int (0 : Int32))] [2, 3, 4, 5, 6, 7, 8, 9, 10, 1, 0] rfl (g_X9_readProgram_L182 hC k62 hk62 x2 x3 x4 x5 x6 x7 x8 x9 z0 (0 : Int32) S)
    · refine gx_aload_n (pc' := 147) hC rfl dX9_readProgram_146 rfl ?_
      refine gx_get (pc' := 150) hC 0 (atM0 cI cZ a _) rfl inw_X9 10 (by decide) lk_X9_32 rfl rfl dX9_readProgram_147 ?_
      refine gx_iload (pc' := 152) hC rfl dX9_readProgram_150 rfl ?_
      refine gx_iconst (v := (1 : Int32)) (pc' := 153) hC rfl dX9_readProgram_152 (by decide) ?_
      refine gx_iadd (pc' := 154) hC rfl dX9_readProgram_153 ?_
      refine gx_iald (pc' := 155) hC 8 0 (atM8 cI cZ a _) rfl rfl dX9_readProgram_154 ?_
      refine gx_goto hC 159 dX9_readProgram_155 (by decide) ?_
      refine gx_istore (pc' := 161) hC [(11, .int (S 10 (x8 + (1 : Int32)).toNatClampNeg)), (10, .int z0), (0, .ref (a 0)), (2, .int x2), (3, .int x3), (4, .int x4), (5, .int x5), (6, .int x6), (7, .int x7), (8, .int x8), (9, .int x9)] rfl dX9_readProgram_159 (by decide) rfl ?_
      refine gx_iload (pc' := 163) hC rfl dX9_readProgram_161 rfl ?_
      refine gx_iconst (v := (2 : Int32)) (pc' := 164) hC rfl dX9_readProgram_163 (by decide) ?_
      refine gx_icmp_eq (pc' := 167) hC 182 rfl dX9_readProgram_164 (by decide) (fun h16 => ?_) (fun h16 => ?_)
      · exact gx_sub [(0, .ref (a 0)), (2, .int x2), (3, .int x3), (4, .int x4), (5, .int x5), (6, .int x6), (7, .int x7), (8, .int x8), (9, .int x9), (10, .int z0), (11, .int (S 10 (x8 + (1 : Int32)).toNatClampNeg))] [2, 3, 4, 5, 6, 7, 8, 9, 10, 1, 0] rfl (g_X9_readProgram_L182 hC k62 hk62 x2 x3 x4 x5 x6 x7 x8 x9 z0 (S 10 (x8 + (1 : Int32)).toNatClampNeg) S)
      · refine gx_iload (pc' := 169) hC rfl dX9_readProgram_167 rfl ?_
        refine gx_bipush (v := (63 : Int32)) (pc' := 171) hC rfl dX9_readProgram_169 (by decide) ?_
        refine gx_icmp_le (pc' := 174) hC 214 rfl dX9_readProgram_171 (by decide) (fun h17 => ?_) (fun h17 => ?_)
        · exact gx_sub [(0, .ref (a 0)), (2, .int x2), (3, .int x3), (4, .int x4), (5, .int x5), (6, .int x6), (7, .int x7), (8, .int x8), (9, .int x9), (10, .int z0), (11, .int (S 10 (x8 + (1 : Int32)).toNatClampNeg))] [2, 3, 4, 5, 6, 7, 8, 9, 10, 1, 0] rfl (g_X9_readProgram_L214 hC k62 hk62 x2 x3 x4 x5 x6 x7 x8 x9 z0 (S 10 (x8 + (1 : Int32)).toNatClampNeg) S)
        · refine gx_iload (pc' := 176) hC rfl dX9_readProgram_174 rfl ?_
          refine gx_sipush (v := (128 : Int32)) (pc' := 179) hC rfl dX9_readProgram_176 (by decide) ?_
          refine gx_icmp_ge (pc' := 182) hC 214 rfl dX9_readProgram_179 (by decide) (fun h18 => ?_) (fun h18 => ?_)
          · exact gx_sub [(0, .ref (a 0)), (2, .int x2), (3, .int x3), (4, .int x4), (5, .int x5), (6, .int x6), (7, .int x7), (8, .int x8), (9, .int x9), (10, .int z0), (11, .int (S 10 (x8 + (1 : Int32)).toNatClampNeg))] [2, 3, 4, 5, 6, 7, 8, 9, 10, 1, 0] rfl (g_X9_readProgram_L214 hC k62 hk62 x2 x3 x4 x5 x6 x7 x8 x9 z0 (S 10 (x8 + (1 : Int32)).toNatClampNeg) S)
          · exact gx_sub [(0, .ref (a 0)), (2, .int x2), (3, .int x3), (4, .int x4), (5, .int x5), (6, .int x6), (7, .int x7), (8, .int x8), (9, .int x9), (10, .int z0), (11, .int (S 10 (x8 + (1 : Int32)).toNatClampNeg))] [2, 3, 4, 5, 6, 7, 8, 9, 10, 1, 0] rfl (g_X9_readProgram_L182 hC k62 hk62 x2 x3 x4 x5 x6 x7 x8 x9 z0 (S 10 (x8 + (1 : Int32)).toNatClampNeg) S)
  · refine gx_iconst (v := (0 : Int32)) (pc' := 140) hC rfl dX9_readProgram_139 (by decide) ?_
    exact gx_zret hC dX9_readProgram_140
set_option maxHeartbeats 4000000 in
set_option maxRecDepth 100000 in
theorem g_X9_readProgram_L62 {p : Program} {l : Launch} {e : Env} {s : State} {m : MethodId} {args : Array Value} {below : List Frame} {meth : Method} {c : Code} {D : va_G} {cI cZ cR : ClassId} {a : Nat → Nat} {tZ : Nat} {A : Nat → Prop} (hC : CX p s m args meth c cX9_readProgram 13 (some .boolean) yX9_readProgram.cls D (tyl cI cZ cR) tZ A) : ∀ (n : Nat) (x2 : Int32) (x3 : Int32) (x4 : Int32) (x5 : Int32) (x6 : Int32) (x7 : Int32) (x8 : Int32) (S : St), GX p l e rm_X9_readProgram s m args below meth c 13 D A (wM cI cZ a) (KI below D (tyl cI cZ cR) (wM cI cZ a) A args s) 62 [(0, .ref (a 0)), (2, .int x2), (3, .int x3), (4, .int x4), (5, .int x5), (6, .int x6), (7, .int x7), (8, .int x8)] [] S (m_X9_readProgram_L62 n x2 x3 x4 x5 x6 x7 x8 S) := by
  intro n
  induction n with
  | zero => intro x2 x3 x4 x5 x6 x7 x8 S; exact gx_none
  | succ n ih =>
    intro x2 x3 x4 x5 x6 x7 x8 S
    rw [m_X9_readProgram_L62]
    refine gx_iload (pc' := 64) hC rfl dX9_readProgram_62 rfl ?_
    refine gx_iload_n (pc' := 65) hC rfl dX9_readProgram_64 rfl ?_
    refine gx_icmp_ge (pc' := 68) hC 501 rfl dX9_readProgram_65 (by decide) (fun h3 => ?_) (fun h3 => ?_)
    · refine gx_iconst (v := (1 : Int32)) (pc' := 502) hC rfl dX9_readProgram_501 (by decide) ?_
      exact gx_zret hC dX9_readProgram_502
    · refine gx_aload_n (pc' := 69) hC rfl dX9_readProgram_68 rfl ?_
      refine gx_get (pc' := 72) hC 0 (atM0 cI cZ a _) rfl inw_X9 10 (by decide) lk_X9_32 rfl rfl dX9_readProgram_69 ?_
      refine gx_iload (pc' := 74) hC rfl dX9_readProgram_72 rfl ?_
      refine gx_iald (pc' := 75) hC 8 0 (atM8 cI cZ a _) rfl rfl dX9_readProgram_74 ?_
      refine gx_istore (pc' := 77) hC [(9, .int (S 10 x8.toNatClampNeg)), (0, .ref (a 0)), (2, .int x2), (3, .int x3), (4, .int x4), (5, .int x5), (6, .int x6), (7, .int x7), (8, .int x8)] rfl dX9_readProgram_75 (by decide) rfl ?_
      refine gx_iload (pc' := 79) hC rfl dX9_readProgram_77 rfl ?_
      refine gx_iconst (v := (2 : Int32)) (pc' := 80) hC rfl dX9_readProgram_79 (by decide) ?_
      refine gx_icmp_eq (pc' := 83) hC 112 rfl dX9_readProgram_80 (by decide) (fun h4 => ?_) (fun h4 => ?_)
      · refine gx_iconst (v := (1 : Int32)) (pc' := 113) hC rfl dX9_readProgram_112 (by decide) ?_
        refine gx_goto hC 128 dX9_readProgram_113 (by decide) ?_
        exact gx_sub [(0, .ref (a 0)), (2, .int x2), (3, .int x3), (4, .int x4), (5, .int x5), (6, .int x6), (7, .int x7), (8, .int x8), (9, .int (S 10 x8.toNatClampNeg))] [1, 2, 3, 4, 5, 6, 7, 8, 0] rfl (g_X9_readProgram_L128 hC (m_X9_readProgram_L62 n) ih x2 x3 x4 x5 x6 x7 x8 (S 10 x8.toNatClampNeg) (1 : Int32) S)
      · refine gx_iload (pc' := 85) hC rfl dX9_readProgram_83 rfl ?_
        refine gx_bipush (v := (13 : Int32)) (pc' := 87) hC rfl dX9_readProgram_85 (by decide) ?_
        refine gx_icmp_eq (pc' := 90) hC 112 rfl dX9_readProgram_87 (by decide) (fun h5 => ?_) (fun h5 => ?_)
        · refine gx_iconst (v := (1 : Int32)) (pc' := 113) hC rfl dX9_readProgram_112 (by decide) ?_
          refine gx_goto hC 128 dX9_readProgram_113 (by decide) ?_
          exact gx_sub [(0, .ref (a 0)), (2, .int x2), (3, .int x3), (4, .int x4), (5, .int x5), (6, .int x6), (7, .int x7), (8, .int x8), (9, .int (S 10 x8.toNatClampNeg))] [1, 2, 3, 4, 5, 6, 7, 8, 0] rfl (g_X9_readProgram_L128 hC (m_X9_readProgram_L62 n) ih x2 x3 x4 x5 x6 x7 x8 (S 10 x8.toNatClampNeg) (1 : Int32) S)
        · refine gx_iload (pc' := 92) hC rfl dX9_readProgram_90 rfl ?_
          refine gx_bipush (v := (14 : Int32)) (pc' := 94) hC rfl dX9_readProgram_92 (by decide) ?_
          refine gx_icmp_eq (pc' := 97) hC 112 rfl dX9_readProgram_94 (by decide) (fun h6 => ?_) (fun h6 => ?_)
          · refine gx_iconst (v := (1 : Int32)) (pc' := 113) hC rfl dX9_readProgram_112 (by decide) ?_
            refine gx_goto hC 128 dX9_readProgram_113 (by decide) ?_
            exact gx_sub [(0, .ref (a 0)), (2, .int x2), (3, .int x3), (4, .int x4), (5, .int x5), (6, .int x6), (7, .int x7), (8, .int x8), (9, .int (S 10 x8.toNatClampNeg))] [1, 2, 3, 4, 5, 6, 7, 8, 0] rfl (g_X9_readProgram_L128 hC (m_X9_readProgram_L62 n) ih x2 x3 x4 x5 x6 x7 x8 (S 10 x8.toNatClampNeg) (1 : Int32) S)
          · refine gx_iload (pc' := 99) hC rfl dX9_readProgram_97 rfl ?_
            refine gx_bipush (v := (127 : Int32)) (pc' := 101) hC rfl dX9_readProgram_99 (by decide) ?_
            refine gx_icmp_le (pc' := 104) hC 116 rfl dX9_readProgram_101 (by decide) (fun h7 => ?_) (fun h7 => ?_)
            · refine gx_iload (pc' := 118) hC rfl dX9_readProgram_116 rfl ?_
              refine gx_bipush (v := (12 : Int32)) (pc' := 120) hC rfl dX9_readProgram_118 (by decide) ?_
              refine gx_icmp_ne (pc' := 123) hC 127 rfl dX9_readProgram_120 (by decide) (fun h8 => ?_) (fun h8 => ?_)
              · refine gx_iconst (v := (2 : Int32)) (pc' := 124) hC rfl dX9_readProgram_123 (by decide) ?_
                refine gx_goto hC 128 dX9_readProgram_124 (by decide) ?_
                exact gx_sub [(0, .ref (a 0)), (2, .int x2), (3, .int x3), (4, .int x4), (5, .int x5), (6, .int x6), (7, .int x7), (8, .int x8), (9, .int (S 10 x8.toNatClampNeg))] [1, 2, 3, 4, 5, 6, 7, 8, 0] rfl (g_X9_readProgram_L128 hC (m_X9_readProgram_L62 n) ih x2 x3 x4 x5 x6 x7 x8 (S 10 x8.toNatClampNeg) (2 : Int32) S)
              · refine gx_iconst (v := (0 : Int32)) (pc' := 128) hC rfl dX9_readProgram_127 (by decide) ?_
                exact gx_sub [(0, .ref (a 0)), (2, .int x2), (3, .int x3), (4, .int x4), (5, .int x5), (6, .int x6), (7, .int x7), (8, .int x8), (9, .int (S 10 x8.toNatClampNeg))] [1, 2, 3, 4, 5, 6, 7, 8, 0] rfl (g_X9_readProgram_L128 hC (m_X9_readProgram_L62 n) ih x2 x3 x4 x5 x6 x7 x8 (S 10 x8.toNatClampNeg) (0 : Int32) S)
            · refine gx_iload (pc' := 106) hC rfl dX9_readProgram_104 rfl ?_
              refine gx_sipush (v := (131 : Int32)) (pc' := 109) hC rfl dX9_readProgram_106 (by decide) ?_
              refine gx_icmp_ge (pc' := 112) hC 116 rfl dX9_readProgram_109 (by decide) (fun h9 => ?_) (fun h9 => ?_)
              · refine gx_iload (pc' := 118) hC rfl dX9_readProgram_116 rfl ?_
                refine gx_bipush (v := (12 : Int32)) (pc' := 120) hC rfl dX9_readProgram_118 (by decide) ?_
                refine gx_icmp_ne (pc' := 123) hC 127 rfl dX9_readProgram_120 (by decide) (fun h10 => ?_) (fun h10 => ?_)
                · refine gx_iconst (v := (2 : Int32)) (pc' := 124) hC rfl dX9_readProgram_123 (by decide) ?_
                  refine gx_goto hC 128 dX9_readProgram_124 (by decide) ?_
                  exact gx_sub [(0, .ref (a 0)), (2, .int x2), (3, .int x3), (4, .int x4), (5, .int x5), (6, .int x6), (7, .int x7), (8, .int x8), (9, .int (S 10 x8.toNatClampNeg))] [1, 2, 3, 4, 5, 6, 7, 8, 0] rfl (g_X9_readProgram_L128 hC (m_X9_readProgram_L62 n) ih x2 x3 x4 x5 x6 x7 x8 (S 10 x8.toNatClampNeg) (2 : Int32) S)
                · refine gx_iconst (v := (0 : Int32)) (pc' := 128) hC rfl dX9_readProgram_127 (by decide) ?_
                  exact gx_sub [(0, .ref (a 0)), (2, .int x2), (3, .int x3), (4, .int x4), (5, .int x5), (6, .int x6), (7, .int x7), (8, .int x8), (9, .int (S 10 x8.toNatClampNeg))] [1, 2, 3, 4, 5, 6, 7, 8, 0] rfl (g_X9_readProgram_L128 hC (m_X9_readProgram_L62 n) ih x2 x3 x4 x5 x6 x7 x8 (S 10 x8.toNatClampNeg) (0 : Int32) S)
              · refine gx_iconst (v := (1 : Int32)) (pc' := 113) hC rfl dX9_readProgram_112 (by decide) ?_
                refine gx_goto hC 128 dX9_readProgram_113 (by decide) ?_
                exact gx_sub [(0, .ref (a 0)), (2, .int x2), (3, .int x3), (4, .int x4), (5, .int x5), (6, .int x6), (7, .int x7), (8, .int x8), (9, .int (S 10 x8.toNatClampNeg))] [1, 2, 3, 4, 5, 6, 7, 8, 0] rfl (g_X9_readProgram_L128 hC (m_X9_readProgram_L62 n) ih x2 x3 x4 x5 x6 x7 x8 (S 10 x8.toNatClampNeg) (1 : Int32) S)
set_option maxHeartbeats 4000000 in
set_option maxRecDepth 100000 in
theorem g_X9_readProgram_L17 {p : Program} {l : Launch} {e : Env} {s : State} {m : MethodId} {args : Array Value} {below : List Frame} {meth : Method} {c : Code} {D : va_G} {cI cZ cR : ClassId} {a : Nat → Nat} {tZ : Nat} {A : Nat → Prop} (hC : CX p s m args meth c cX9_readProgram 13 (some .boolean) yX9_readProgram.cls D (tyl cI cZ cR) tZ A) : ∀ (n : Nat) (x1 : Int32) (x2 : Int32) (x3 : Int32) (x4 : Int32) (x5 : Int32) (x6 : Int32) (S : St), GX p l e rm_X9_readProgram s m args below meth c 13 D A (wM cI cZ a) (KI below D (tyl cI cZ cR) (wM cI cZ a) A args s) 17 [(0, .ref (a 0)), (1, .int x1), (2, .int x2), (3, .int x3), (4, .int x4), (5, .int x5), (6, .int x6)] [] S (m_X9_readProgram_L17 n x1 x2 x3 x4 x5 x6 S) := by
  intro n
  induction n with
  | zero => intro x1 x2 x3 x4 x5 x6 S; exact gx_none
  | succ n ih =>
    intro x1 x2 x3 x4 x5 x6 S
    rw [m_X9_readProgram_L17]
    refine gx_iload (pc' := 19) hC rfl dX9_readProgram_17 rfl ?_
    refine gx_iconst (v := (5 : Int32)) (pc' := 20) hC rfl dX9_readProgram_19 (by decide) ?_
    refine gx_icmp_ge (pc' := 23) hC 37 rfl dX9_readProgram_20 (by decide) (fun h1 => ?_) (fun h1 => ?_)
    · refine gx_iload_n (pc' := 38) hC rfl dX9_readProgram_37 rfl ?_
      refine gx_istore (pc' := 40) hC [(6, .int x3), (0, .ref (a 0)), (1, .int x1), (2, .int x2), (3, .int x3), (4, .int x4), (5, .int x5)] rfl dX9_readProgram_38 (by decide) rfl ?_
      refine gx_iconst (v := (0 : Int32)) (pc' := 41) hC rfl dX9_readProgram_40 (by decide) ?_
      refine gx_istore (pc' := 43) hC [(7, .int (0 : Int32)), (6, .int x3), (0, .ref (a 0)), (1, .int x1), (2, .int x2), (3, .int x3), (4, .int x4), (5, .int x5)] rfl dX9_readProgram_41 (by decide) rfl ?_
      refine gx_aload_n (pc' := 44) hC rfl dX9_readProgram_43 rfl ?_
      refine gx_iload (pc' := 46) hC rfl dX9_readProgram_44 rfl ?_
      refine gx_iload (pc' := 48) hC rfl dX9_readProgram_46 rfl ?_
      refine gx_icmp_gt (pc' := 51) hC 55 rfl dX9_readProgram_48 (by decide) (fun h2 => ?_) (fun h2 => ?_)
      · refine gx_iconst (v := (0 : Int32)) (pc' := 56) hC rfl dX9_readProgram_55 (by decide) ?_
        refine gx_callVV (pc' := 59) hC (c_X9_keep cI cZ cR a (0 : Int32) _) 0 (atM0 cI cZ a _) rfl kw_X9_146 hy_X9_keep ⟨rfl, rfl⟩ (by decide) rfl rfl (Nat.le_of_ble_eq_true rfl) rfl dX9_readProgram_56 (fun r1 => ?_)
        refine gx_iload_n (pc' := 60) hC rfl dX9_readProgram_59 rfl ?_
        refine gx_istore (pc' := 62) hC [(8, .int x1), (7, .int (0 : Int32)), (6, .int x3), (0, .ref (a 0)), (1, .int x1), (2, .int x2), (3, .int x3), (4, .int x4), (5, .int x5)] rfl dX9_readProgram_60 (by decide) rfl ?_
        exact gx_sub [(0, .ref (a 0)), (2, .int x2), (3, .int x3), (4, .int x4), (5, .int x5), (6, .int x3), (7, .int (0 : Int32)), (8, .int x1)] [3, 5, 6, 7, 8, 2, 1, 0] rfl (g_X9_readProgram_L62 hC 10000 x2 x3 x4 x5 x3 (0 : Int32) x1 r1.2)
      · refine gx_iconst (v := (1 : Int32)) (pc' := 52) hC rfl dX9_readProgram_51 (by decide) ?_
        refine gx_goto hC 56 dX9_readProgram_52 (by decide) ?_
        refine gx_callVV (pc' := 59) hC (c_X9_keep cI cZ cR a (1 : Int32) _) 0 (atM0 cI cZ a _) rfl kw_X9_146 hy_X9_keep ⟨rfl, rfl⟩ (by decide) rfl rfl (Nat.le_of_ble_eq_true rfl) rfl dX9_readProgram_56 (fun r2 => ?_)
        refine gx_iload_n (pc' := 60) hC rfl dX9_readProgram_59 rfl ?_
        refine gx_istore (pc' := 62) hC [(8, .int x1), (7, .int (0 : Int32)), (6, .int x3), (0, .ref (a 0)), (1, .int x1), (2, .int x2), (3, .int x3), (4, .int x4), (5, .int x5)] rfl dX9_readProgram_60 (by decide) rfl ?_
        exact gx_sub [(0, .ref (a 0)), (2, .int x2), (3, .int x3), (4, .int x4), (5, .int x5), (6, .int x3), (7, .int (0 : Int32)), (8, .int x1)] [3, 5, 6, 7, 8, 2, 1, 0] rfl (g_X9_readProgram_L62 hC 10000 x2 x3 x4 x5 x3 (0 : Int32) x1 r2.2)
    · refine gx_aload_n (pc' := 24) hC rfl dX9_readProgram_23 rfl ?_
      refine gx_get (pc' := 27) hC 0 (atM0 cI cZ a _) rfl inw_X9 14 (by decide) lk_X9_41 rfl rfl dX9_readProgram_24 ?_
      refine gx_iload (pc' := 29) hC rfl dX9_readProgram_27 rfl ?_
      refine gx_iconst (v := (0 : Int32)) (pc' := 30) hC rfl dX9_readProgram_29 (by decide) ?_
      refine gx_iast (pc' := 31) hC 11 0 (atM11 cI cZ a _) rfl (st S 14 x6.toNatClampNeg (0 : Int32)) (stM11 cI cZ a _ _ _) rfl dX9_readProgram_30 ?_
      refine gx_iinc (v := (x6 + (1 : Int32))) (pc' := 34) hC [(6, .int (x6 + (1 : Int32))), (0, .ref (a 0)), (1, .int x1), (2, .int x2), (3, .int x3), (4, .int x4), (5, .int x5)] rfl dX9_readProgram_31 rfl rfl (by decide) rfl ?_
      refine gx_goto hC 17 dX9_readProgram_34 (by decide) ?_
      exact gx_sub [(0, .ref (a 0)), (1, .int x1), (2, .int x2), (3, .int x3), (4, .int x4), (5, .int x5), (6, .int (x6 + (1 : Int32)))] [1, 2, 3, 4, 5, 6, 0] rfl (ih x1 x2 x3 x4 x5 (x6 + (1 : Int32)) (st S 14 x6.toNatClampNeg (0 : Int32)))
set_option maxHeartbeats 4000000 in
set_option maxRecDepth 100000 in
theorem c_X9_readProgram {l : Launch} {D : va_G} {tZ : Nat} (cI cZ cR : ClassId) (a : Nat → Nat) (x1 : Int32) (x2 : Int32) (x3 : Int32) (x4 : Int32) (x5 : Int32) (S : St) : MI l D (tyl cI cZ cR) tZ (wM cI cZ a) yX9_readProgram cX9_readProgram 13 (some .boolean) rm_X9_readProgram [.ref (a 0), .int x1, .int x2, .int x3, .int x4, .int x5] S (m_X9_readProgram x1 x2 x3 x4 x5 S) := by
  refine gx_metI (by decide) (Nat.le_of_ble_eq_true rfl) ?_
  intro p e s m below meth c A hC
  refine gx_sub [(0, .ref (a 0)), (1, .int x1), (2, .int x2), (3, .int x3), (4, .int x4), (5, .int x5)] [0, 1, 2, 3, 4, 5] rfl ?_
  rw [m_X9_readProgram]
  refine gx_aload_n (pc' := 1) hC rfl dX9_readProgram_0 rfl ?_
  refine gx_get (pc' := 4) hC 0 (atM0 cI cZ a _) rfl inw_X9 14 (by decide) lk_X9_41 rfl rfl dX9_readProgram_1 ?_
  refine gx_iconst (v := (0 : Int32)) (pc' := 5) hC rfl dX9_readProgram_4 (by decide) ?_
  refine gx_iconst (v := (0 : Int32)) (pc' := 6) hC rfl dX9_readProgram_5 (by decide) ?_
  refine gx_iast (pc' := 7) hC 11 0 (atM11 cI cZ a _) rfl (st S 14 (0 : Int32).toNatClampNeg (0 : Int32)) (stM11 cI cZ a _ _ _) rfl dX9_readProgram_6 ?_
  refine gx_aload_n (pc' := 8) hC rfl dX9_readProgram_7 rfl ?_
  refine gx_get (pc' := 11) hC 0 (atM0 cI cZ a _) rfl inw_X9 14 (by decide) lk_X9_41 rfl rfl dX9_readProgram_8 ?_
  refine gx_iconst (v := (1 : Int32)) (pc' := 12) hC rfl dX9_readProgram_11 (by decide) ?_
  refine gx_iconst (v := (1 : Int32)) (pc' := 13) hC rfl dX9_readProgram_12 (by decide) ?_
  refine gx_iast (pc' := 14) hC 11 0 (atM11 cI cZ a _) rfl (st (st S 14 (0 : Int32).toNatClampNeg (0 : Int32)) 14 (1 : Int32).toNatClampNeg (1 : Int32)) (stM11 cI cZ a _ _ _) rfl dX9_readProgram_13 ?_
  refine gx_iconst (v := (2 : Int32)) (pc' := 15) hC rfl dX9_readProgram_14 (by decide) ?_
  refine gx_istore (pc' := 17) hC [(6, .int (2 : Int32)), (0, .ref (a 0)), (1, .int x1), (2, .int x2), (3, .int x3), (4, .int x4), (5, .int x5)] rfl dX9_readProgram_15 (by decide) rfl ?_
  exact gx_sub [(0, .ref (a 0)), (1, .int x1), (2, .int x2), (3, .int x3), (4, .int x4), (5, .int x5), (6, .int (2 : Int32))] [1, 2, 3, 4, 5, 6, 0] rfl (g_X9_readProgram_L17 hC 10000 x1 x2 x3 x4 x5 (2 : Int32) (st (st S 14 (0 : Int32).toNatClampNeg (0 : Int32)) 14 (1 : Int32).toNatClampNeg (1 : Int32)))
set_option maxHeartbeats 4000000 in
set_option maxRecDepth 100000 in
theorem g_X9_findRow_L2 {p : Program} {l : Launch} {e : Env} {s : State} {m : MethodId} {args : Array Value} {below : List Frame} {meth : Method} {c : Code} {D : va_G} {cI cZ cR : ClassId} {a : Nat → Nat} {tZ : Nat} {A : Nat → Prop} (hC : CX p s m args meth c cX9_findRow 6 (some .int) yX9_findRow.cls D (tyl cI cZ cR) tZ A) : ∀ (n : Nat) (x1 : Int32) (x2 : Int32) (S : St), GX p l e rm_X9_findRow s m args below meth c 6 D A (wM cI cZ a) (KI below D (tyl cI cZ cR) (wM cI cZ a) A args s) 2 [(0, .ref (a 0)), (1, .int x1), (2, .int x2)] [] S (m_X9_findRow_L2 n x1 x2 S) := by
  intro n
  induction n with
  | zero => intro x1 x2 S; exact gx_none
  | succ n ih =>
    intro x1 x2 S
    rw [m_X9_findRow_L2]
    refine gx_iload_n (pc' := 3) hC rfl dX9_findRow_2 rfl ?_
    refine gx_aload_n (pc' := 4) hC rfl dX9_findRow_3 rfl ?_
    refine gx_get (pc' := 7) hC 0 (atM0 cI cZ a _) rfl inw_X9 12 (by decide) lk_X9_143 rfl rfl dX9_findRow_4 ?_
    refine gx_icmp_ge (pc' := 10) hC 131 rfl dX9_findRow_7 (by decide) (fun h1 => ?_) (fun h1 => ?_)
    · refine gx_iconst (v := (0 : Int32)) (pc' := 132) hC rfl dX9_findRow_131 (by decide) ?_
      exact gx_iret hC dX9_findRow_132
    · refine gx_iload_n (pc' := 11) hC rfl dX9_findRow_10 rfl ?_
      refine gx_iconst (v := (2 : Int32)) (pc' := 12) hC rfl dX9_findRow_11 (by decide) ?_
      refine gx_iadd (pc' := 13) hC rfl dX9_findRow_12 ?_
      refine gx_aload_n (pc' := 14) hC rfl dX9_findRow_13 rfl ?_
      refine gx_get (pc' := 17) hC 0 (atM0 cI cZ a _) rfl inw_X9 12 (by decide) lk_X9_143 rfl rfl dX9_findRow_14 ?_
      refine gx_icmp_le (pc' := 20) hC 22 rfl dX9_findRow_17 (by decide) (fun h2 => ?_) (fun h2 => ?_)
      · refine gx_sipush (v := (256 : Int32)) (pc' := 25) hC rfl dX9_findRow_22 (by decide) ?_
        refine gx_aload_n (pc' := 26) hC rfl dX9_findRow_25 rfl ?_
        refine gx_get (pc' := 29) hC 0 (atM0 cI cZ a _) rfl inw_X9 10 (by decide) lk_X9_32 rfl rfl dX9_findRow_26 ?_
        refine gx_iload_n (pc' := 30) hC rfl dX9_findRow_29 rfl ?_
        refine gx_iald (pc' := 31) hC 8 0 (atM8 cI cZ a _) rfl rfl dX9_findRow_30 ?_
        refine gx_imul (pc' := 32) hC rfl dX9_findRow_31 ?_
        refine gx_aload_n (pc' := 33) hC rfl dX9_findRow_32 rfl ?_
        refine gx_get (pc' := 36) hC 0 (atM0 cI cZ a _) rfl inw_X9 10 (by decide) lk_X9_32 rfl rfl dX9_findRow_33 ?_
        refine gx_iload_n (pc' := 37) hC rfl dX9_findRow_36 rfl ?_
        refine gx_iconst (v := (1 : Int32)) (pc' := 38) hC rfl dX9_findRow_37 (by decide) ?_
        refine gx_iadd (pc' := 39) hC rfl dX9_findRow_38 ?_
        refine gx_iald (pc' := 40) hC 8 0 (atM8 cI cZ a _) rfl rfl dX9_findRow_39 ?_
        refine gx_iadd (pc' := 41) hC rfl dX9_findRow_40 ?_
        refine gx_istore_n (pc' := 42) hC [(3, .int (((256 : Int32) * (S 10 x2.toNatClampNeg)) + (S 10 (x2 + (1 : Int32)).toNatClampNeg))), (0, .ref (a 0)), (1, .int x1), (2, .int x2)] rfl dX9_findRow_41 (by decide) rfl ?_
        refine gx_iload_n (pc' := 43) hC rfl dX9_findRow_42 rfl ?_
        refine gx_iconst (v := (2 : Int32)) (pc' := 44) hC rfl dX9_findRow_43 (by decide) ?_
        refine gx_icmp_lt (pc' := 47) hC 59 rfl dX9_findRow_44 (by decide) (fun h3 => ?_) (fun h3 => ?_)
        · refine gx_iconst (v := (-1 : Int32)) (pc' := 60) hC rfl dX9_findRow_59 (by decide) ?_
          exact gx_iret hC dX9_findRow_60
        · refine gx_iload_n (pc' := 48) hC rfl dX9_findRow_47 rfl ?_
          refine gx_iconst (v := (2 : Int32)) (pc' := 49) hC rfl dX9_findRow_48 (by decide) ?_
          refine gx_iadd (pc' := 50) hC rfl dX9_findRow_49 ?_
          refine gx_iload_n (pc' := 51) hC rfl dX9_findRow_50 rfl ?_
          refine gx_iadd (pc' := 52) hC rfl dX9_findRow_51 ?_
          refine gx_aload_n (pc' := 53) hC rfl dX9_findRow_52 rfl ?_
          refine gx_get (pc' := 56) hC 0 (atM0 cI cZ a _) rfl inw_X9 12 (by decide) lk_X9_143 rfl rfl dX9_findRow_53 ?_
          refine gx_icmp_le (pc' := 59) hC 61 rfl dX9_findRow_56 (by decide) (fun h4 => ?_) (fun h4 => ?_)
          · refine gx_aload_n (pc' := 62) hC rfl dX9_findRow_61 rfl ?_
            refine gx_get (pc' := 65) hC 0 (atM0 cI cZ a _) rfl inw_X9 10 (by decide) lk_X9_32 rfl rfl dX9_findRow_62 ?_
            refine gx_iload_n (pc' := 66) hC rfl dX9_findRow_65 rfl ?_
            refine gx_iconst (v := (2 : Int32)) (pc' := 67) hC rfl dX9_findRow_66 (by decide) ?_
            refine gx_iadd (pc' := 68) hC rfl dX9_findRow_67 ?_
            refine gx_iald (pc' := 69) hC 8 0 (atM8 cI cZ a _) rfl rfl dX9_findRow_68 ?_
            refine gx_istore (pc' := 71) hC [(4, .int (S 10 (x2 + (2 : Int32)).toNatClampNeg)), (3, .int (((256 : Int32) * (S 10 x2.toNatClampNeg)) + (S 10 (x2 + (1 : Int32)).toNatClampNeg))), (0, .ref (a 0)), (1, .int x1), (2, .int x2)] rfl dX9_findRow_69 (by decide) rfl ?_
            refine gx_aload_n (pc' := 72) hC rfl dX9_findRow_71 rfl ?_
            refine gx_get (pc' := 75) hC 0 (atM0 cI cZ a _) rfl inw_X9 10 (by decide) lk_X9_32 rfl rfl dX9_findRow_72 ?_
            refine gx_iload_n (pc' := 76) hC rfl dX9_findRow_75 rfl ?_
            refine gx_iconst (v := (3 : Int32)) (pc' := 77) hC rfl dX9_findRow_76 (by decide) ?_
            refine gx_iadd (pc' := 78) hC rfl dX9_findRow_77 ?_
            refine gx_iald (pc' := 79) hC 8 0 (atM8 cI cZ a _) rfl rfl dX9_findRow_78 ?_
            refine gx_istore (pc' := 81) hC [(5, .int (S 10 (x2 + (3 : Int32)).toNatClampNeg)), (4, .int (S 10 (x2 + (2 : Int32)).toNatClampNeg)), (3, .int (((256 : Int32) * (S 10 x2.toNatClampNeg)) + (S 10 (x2 + (1 : Int32)).toNatClampNeg))), (0, .ref (a 0)), (1, .int x1), (2, .int x2)] rfl dX9_findRow_79 (by decide) rfl ?_
            refine gx_iload_n (pc' := 82) hC rfl dX9_findRow_81 rfl ?_
            refine gx_iload (pc' := 84) hC rfl dX9_findRow_82 rfl ?_
            refine gx_icmp_lt (pc' := 87) hC 122 rfl dX9_findRow_84 (by decide) (fun h5 => ?_) (fun h5 => ?_)
            · refine gx_iload_n (pc' := 123) hC rfl dX9_findRow_122 rfl ?_
              refine gx_iconst (v := (2 : Int32)) (pc' := 124) hC rfl dX9_findRow_123 (by decide) ?_
              refine gx_iload_n (pc' := 125) hC rfl dX9_findRow_124 rfl ?_
              refine gx_iadd (pc' := 126) hC rfl dX9_findRow_125 ?_
              refine gx_iadd (pc' := 127) hC rfl dX9_findRow_126 ?_
              refine gx_istore_n (pc' := 128) hC [(2, .int (x2 + ((2 : Int32) + (((256 : Int32) * (S 10 x2.toNatClampNeg)) + (S 10 (x2 + (1 : Int32)).toNatClampNeg))))), (5, .int (S 10 (x2 + (3 : Int32)).toNatClampNeg)), (4, .int (S 10 (x2 + (2 : Int32)).toNatClampNeg)), (3, .int (((256 : Int32) * (S 10 x2.toNatClampNeg)) + (S 10 (x2 + (1 : Int32)).toNatClampNeg))), (0, .ref (a 0)), (1, .int x1)] rfl dX9_findRow_127 (by decide) rfl ?_
              refine gx_goto hC 2 dX9_findRow_128 (by decide) ?_
              exact gx_sub [(0, .ref (a 0)), (1, .int x1), (2, .int (x2 + ((2 : Int32) + (((256 : Int32) * (S 10 x2.toNatClampNeg)) + (S 10 (x2 + (1 : Int32)).toNatClampNeg)))))] [4, 5, 0] rfl (ih x1 (x2 + ((2 : Int32) + (((256 : Int32) * (S 10 x2.toNatClampNeg)) + (S 10 (x2 + (1 : Int32)).toNatClampNeg)))) S)
            · refine gx_iload_n (pc' := 88) hC rfl dX9_findRow_87 rfl ?_
              refine gx_iload (pc' := 90) hC rfl dX9_findRow_88 rfl ?_
              refine gx_iload (pc' := 92) hC rfl dX9_findRow_90 rfl ?_
              refine gx_iadd (pc' := 93) hC rfl dX9_findRow_92 ?_
              refine gx_icmp_ge (pc' := 96) hC 122 rfl dX9_findRow_93 (by decide) (fun h6 => ?_) (fun h6 => ?_)
              · refine gx_iload_n (pc' := 123) hC rfl dX9_findRow_122 rfl ?_
                refine gx_iconst (v := (2 : Int32)) (pc' := 124) hC rfl dX9_findRow_123 (by decide) ?_
                refine gx_iload_n (pc' := 125) hC rfl dX9_findRow_124 rfl ?_
                refine gx_iadd (pc' := 126) hC rfl dX9_findRow_125 ?_
                refine gx_iadd (pc' := 127) hC rfl dX9_findRow_126 ?_
                refine gx_istore_n (pc' := 128) hC [(2, .int (x2 + ((2 : Int32) + (((256 : Int32) * (S 10 x2.toNatClampNeg)) + (S 10 (x2 + (1 : Int32)).toNatClampNeg))))), (5, .int (S 10 (x2 + (3 : Int32)).toNatClampNeg)), (4, .int (S 10 (x2 + (2 : Int32)).toNatClampNeg)), (3, .int (((256 : Int32) * (S 10 x2.toNatClampNeg)) + (S 10 (x2 + (1 : Int32)).toNatClampNeg))), (0, .ref (a 0)), (1, .int x1)] rfl dX9_findRow_127 (by decide) rfl ?_
                refine gx_goto hC 2 dX9_findRow_128 (by decide) ?_
                exact gx_sub [(0, .ref (a 0)), (1, .int x1), (2, .int (x2 + ((2 : Int32) + (((256 : Int32) * (S 10 x2.toNatClampNeg)) + (S 10 (x2 + (1 : Int32)).toNatClampNeg)))))] [4, 5, 0] rfl (ih x1 (x2 + ((2 : Int32) + (((256 : Int32) * (S 10 x2.toNatClampNeg)) + (S 10 (x2 + (1 : Int32)).toNatClampNeg)))) S)
              · refine gx_aload_n (pc' := 97) hC rfl dX9_findRow_96 rfl ?_
                refine gx_iload_n (pc' := 98) hC rfl dX9_findRow_97 rfl ?_
                refine gx_iconst (v := (4 : Int32)) (pc' := 99) hC rfl dX9_findRow_98 (by decide) ?_
                refine gx_iadd (pc' := 100) hC rfl dX9_findRow_99 ?_
                refine gx_iload_n (pc' := 101) hC rfl dX9_findRow_100 rfl ?_
                refine gx_iconst (v := (2 : Int32)) (pc' := 102) hC rfl dX9_findRow_101 (by decide) ?_
                refine gx_iadd (pc' := 103) hC rfl dX9_findRow_102 ?_
                refine gx_iload_n (pc' := 104) hC rfl dX9_findRow_103 rfl ?_
                refine gx_iadd (pc' := 105) hC rfl dX9_findRow_104 ?_
                refine gx_iload (pc' := 107) hC rfl dX9_findRow_105 rfl ?_
                refine gx_iload (pc' := 109) hC rfl dX9_findRow_107 rfl ?_
                refine gx_iload_n (pc' := 110) hC rfl dX9_findRow_109 rfl ?_
                refine gx_callVI (pc' := 113) hC (c_X9_readProgram cI cZ cR a (x2 + (4 : Int32)) ((x2 + (2 : Int32)) + (((256 : Int32) * (S 10 x2.toNatClampNeg)) + (S 10 (x2 + (1 : Int32)).toNatClampNeg))) (S 10 (x2 + (2 : Int32)).toNatClampNeg) (S 10 (x2 + (3 : Int32)).toNatClampNeg) x1 _) 0 (atM0 cI cZ a _) rfl kw_X9_150 hy_X9_readProgram ⟨rfl, rfl⟩ (by decide) rfl rfl (Nat.le_of_ble_eq_true rfl) rfl dX9_findRow_110 (fun r1 => ?_)
                refine gx_if_eq (pc' := 116) hC 120 rfl dX9_findRow_113 (by decide) (fun h7 => ?_) (fun h7 => ?_)
                · refine gx_iconst (v := (-1 : Int32)) (pc' := 121) hC rfl dX9_findRow_120 (by decide) ?_
                  exact gx_iret hC dX9_findRow_121
                · refine gx_iconst (v := (1 : Int32)) (pc' := 117) hC rfl dX9_findRow_116 (by decide) ?_
                  refine gx_goto hC 121 dX9_findRow_117 (by decide) ?_
                  exact gx_iret hC dX9_findRow_121
          · refine gx_iconst (v := (-1 : Int32)) (pc' := 60) hC rfl dX9_findRow_59 (by decide) ?_
            exact gx_iret hC dX9_findRow_60
      · refine gx_iconst (v := (-1 : Int32)) (pc' := 21) hC rfl dX9_findRow_20 (by decide) ?_
        exact gx_iret hC dX9_findRow_21
set_option maxHeartbeats 4000000 in
set_option maxRecDepth 100000 in
theorem c_X9_findRow {l : Launch} {D : va_G} {tZ : Nat} (cI cZ cR : ClassId) (a : Nat → Nat) (x1 : Int32) (S : St) : MI l D (tyl cI cZ cR) tZ (wM cI cZ a) yX9_findRow cX9_findRow 6 (some .int) rm_X9_findRow [.ref (a 0), .int x1] S (m_X9_findRow x1 S) := by
  refine gx_metI (by decide) (Nat.le_of_ble_eq_true rfl) ?_
  intro p e s m below meth c A hC
  refine gx_sub [(0, .ref (a 0)), (1, .int x1)] [0, 1] rfl ?_
  rw [m_X9_findRow]
  refine gx_iconst (v := (0 : Int32)) (pc' := 1) hC rfl dX9_findRow_0 (by decide) ?_
  refine gx_istore_n (pc' := 2) hC [(2, .int (0 : Int32)), (0, .ref (a 0)), (1, .int x1)] rfl dX9_findRow_1 (by decide) rfl ?_
  exact gx_sub [(0, .ref (a 0)), (1, .int x1), (2, .int (0 : Int32))] [1, 2, 0] rfl (g_X9_findRow_L2 hC 10000 x1 (0 : Int32) S)
set_option maxHeartbeats 4000000 in
set_option maxRecDepth 100000 in
theorem g_X9_row_L16 {p : Program} {l : Launch} {e : Env} {s : State} {m : MethodId} {args : Array Value} {below : List Frame} {meth : Method} {c : Code} {D : va_G} {cI cZ cR : ClassId} {a : Nat → Nat} {tZ : Nat} {A : Nat → Prop} (hC : CX p s m args meth c cX9_row 4 (some .int) yX9_row.cls D (tyl cI cZ cR) tZ A) (x2 : Int32) (x3 : Int32) (z1 : Int32) (S : St) : GX p l e rm_X9_row s m args below meth c 4 D A (wM cI cZ a) (KI below D (tyl cI cZ cR) (wM cI cZ a) A args s) 16 [(0, .ref (a 0)), (2, .int x2), (3, .int x3)] [.int z1, .ref (a 0)] S (m_X9_row_L16 x2 x3 z1 S) := by
  rw [m_X9_row_L16]
  refine gx_put (pc' := 19) hC tyX9_ok nmX9 0 (atM0 cI cZ a _) rfl inw_X9 0 (by decide) lk_X9_59 rfl rfl rfl (Nat.le_of_ble_eq_true rfl) (st S 30 0 z1) (ptM0_0 cI cZ a _ _) rfl dX9_row_16 ?_
  refine gx_aload_n (pc' := 20) hC rfl dX9_row_19 rfl ?_
  refine gx_get (pc' := 23) hC 0 (atM0 cI cZ a _) rfl inw_X9 0 (by decide) lk_X9_59 rfl rfl dX9_row_20 ?_
  refine gx_if_le (pc' := 26) hC 28 rfl dX9_row_23 (by decide) (fun h2 => ?_) (fun h2 => ?_)
  · refine gx_iload_n (pc' := 29) hC rfl dX9_row_28 rfl ?_
    refine gx_if_eq (pc' := 32) hC 41 rfl dX9_row_29 (by decide) (fun h3 => ?_) (fun h3 => ?_)
    · refine gx_iconst (v := (-1 : Int32)) (pc' := 42) hC rfl dX9_row_41 (by decide) ?_
      refine gx_goto hC 51 dX9_row_42 (by decide) ?_
      exact gx_iret hC dX9_row_51
    · refine gx_iload_n (pc' := 33) hC rfl dX9_row_32 rfl ?_
      refine gx_if_lt (pc' := 36) hC 41 rfl dX9_row_33 (by decide) (fun h4 => ?_) (fun h4 => ?_)
      · refine gx_iconst (v := (-1 : Int32)) (pc' := 42) hC rfl dX9_row_41 (by decide) ?_
        refine gx_goto hC 51 dX9_row_42 (by decide) ?_
        exact gx_iret hC dX9_row_51
      · refine gx_iload_n (pc' := 37) hC rfl dX9_row_36 rfl ?_
        refine gx_iconst (v := (4 : Int32)) (pc' := 38) hC rfl dX9_row_37 (by decide) ?_
        refine gx_icmp_le (pc' := 41) hC 45 rfl dX9_row_38 (by decide) (fun h5 => ?_) (fun h5 => ?_)
        · refine gx_aload_n (pc' := 46) hC rfl dX9_row_45 rfl ?_
          refine gx_get (pc' := 49) hC 0 (atM0 cI cZ a _) rfl inw_X9 13 (by decide) lk_X9_38 rfl rfl dX9_row_46 ?_
          refine gx_iload_n (pc' := 50) hC rfl dX9_row_49 rfl ?_
          refine gx_iald (pc' := 51) hC 10 0 (atM10 cI cZ a _) rfl rfl dX9_row_50 ?_
          exact gx_iret hC dX9_row_51
        · refine gx_iconst (v := (-1 : Int32)) (pc' := 42) hC rfl dX9_row_41 (by decide) ?_
          refine gx_goto hC 51 dX9_row_42 (by decide) ?_
          exact gx_iret hC dX9_row_51
  · refine gx_iconst (v := (0 : Int32)) (pc' := 27) hC rfl dX9_row_26 (by decide) ?_
    exact gx_iret hC dX9_row_27
set_option maxHeartbeats 4000000 in
set_option maxRecDepth 100000 in
theorem c_X9_row {l : Launch} {D : va_G} {tZ : Nat} (cI cZ cR : ClassId) (a : Nat → Nat) (x1 : Int32) (x2 : Int32) (S : St) : MI l D (tyl cI cZ cR) tZ (wM cI cZ a) yX9_row cX9_row 4 (some .int) rm_X9_row [.ref (a 0), .int x1, .int x2] S (m_X9_row x1 x2 S) := by
  refine gx_metI (by decide) (Nat.le_of_ble_eq_true rfl) ?_
  intro p e s m below meth c A hC
  refine gx_sub [(0, .ref (a 0)), (1, .int x1), (2, .int x2)] [0, 1, 2] rfl ?_
  rw [m_X9_row]
  refine gx_aload_n (pc' := 1) hC rfl dX9_row_0 rfl ?_
  refine gx_iload_n (pc' := 2) hC rfl dX9_row_1 rfl ?_
  refine gx_callVI (pc' := 5) hC (c_X9_findRow cI cZ cR a x1 _) 0 (atM0 cI cZ a _) rfl kw_X9_154 hy_X9_findRow ⟨rfl, rfl⟩ (by decide) rfl rfl (Nat.le_of_ble_eq_true rfl) rfl dX9_row_2 (fun r1 => ?_)
  refine gx_istore_n (pc' := 6) hC [(3, .int r1.1), (0, .ref (a 0)), (1, .int x1), (2, .int x2)] rfl dX9_row_5 (by decide) rfl ?_
  refine gx_aload_n (pc' := 7) hC rfl dX9_row_6 rfl ?_
  refine gx_iload_n (pc' := 8) hC rfl dX9_row_7 rfl ?_
  refine gx_if_ge (pc' := 11) hC 15 rfl dX9_row_8 (by decide) (fun h1 => ?_) (fun h1 => ?_)
  · refine gx_iconst (v := (0 : Int32)) (pc' := 16) hC rfl dX9_row_15 (by decide) ?_
    exact gx_sub [(0, .ref (a 0)), (2, .int x2), (3, .int r1.1)] [1, 3, 0] rfl (g_X9_row_L16 hC x2 r1.1 (0 : Int32) r1.2)
  · refine gx_iconst (v := (1 : Int32)) (pc' := 12) hC rfl dX9_row_11 (by decide) ?_
    refine gx_goto hC 16 dX9_row_12 (by decide) ?_
    exact gx_sub [(0, .ref (a 0)), (2, .int x2), (3, .int r1.1)] [1, 3, 0] rfl (g_X9_row_L16 hC x2 r1.1 (1 : Int32) r1.2)
set_option maxHeartbeats 4000000 in
set_option maxRecDepth 100000 in
theorem g_X9_begin_L17 {p : Program} {l : Launch} {e : Env} {s : State} {m : MethodId} {args : Array Value} {below : List Frame} {meth : Method} {c : Code} {D : va_G} {cI cZ cR : ClassId} {a : Nat → Nat} {tZ : Nat} {A : Nat → Prop} (hC : CX p s m args meth c cX9_begin 6 (some .boolean) yX9_begin.cls D (tyl cI cZ cR) tZ A) : ∀ (n : Nat) (x1 : Int32) (x2 : Int32) (x3 : Int32) (x4 : Int32) (x5 : Int32) (S : St), GX p l e rm_X9_begin s m args below meth c 6 D A (wM cI cZ a) (KI below D (tyl cI cZ cR) (wM cI cZ a) A args s) 17 [(0, .ref (a 0)), (1, .int x1), (2, .int x2), (3, .int x3), (4, .int x4), (5, .int x5)] [] S (m_X9_begin_L17 n x1 x2 x3 x4 x5 S) := by
  intro n
  induction n with
  | zero => intro x1 x2 x3 x4 x5 S; exact gx_none
  | succ n ih =>
    intro x1 x2 x3 x4 x5 S
    rw [m_X9_begin_L17]
    refine gx_iload (pc' := 19) hC rfl dX9_begin_17 rfl ?_
    refine gx_bipush (v := (40 : Int32)) (pc' := 21) hC rfl dX9_begin_19 (by decide) ?_
    refine gx_icmp_ge (pc' := 24) hC 38 rfl dX9_begin_21 (by decide) (fun h2 => ?_) (fun h2 => ?_)
    · refine gx_aload_n (pc' := 39) hC rfl dX9_begin_38 rfl ?_
      refine gx_iconst (v := (1 : Int32)) (pc' := 40) hC rfl dX9_begin_39 (by decide) ?_
      refine gx_put (pc' := 43) hC tyX9_ok nmX9 0 (atM0 cI cZ a _) rfl inw_X9 16 (by decide) lk_X9_157 rfl rfl rfl (Nat.le_of_ble_eq_true rfl) (st S 30 16 (1 : Int32)) (ptM0_16 cI cZ a _ _) rfl dX9_begin_40 ?_
      refine gx_aload_n (pc' := 44) hC rfl dX9_begin_43 rfl ?_
      refine gx_iconst (v := (1 : Int32)) (pc' := 45) hC rfl dX9_begin_44 (by decide) ?_
      refine gx_put (pc' := 48) hC tyX9_ok nmX9 0 (atM0 cI cZ a _) rfl inw_X9 17 (by decide) lk_X9_63 rfl rfl rfl (Nat.le_of_ble_eq_true rfl) (st (st S 30 16 (1 : Int32)) 30 17 (1 : Int32)) (ptM0_17 cI cZ a _ _) rfl dX9_begin_45 ?_
      refine gx_aload_n (pc' := 49) hC rfl dX9_begin_48 rfl ?_
      refine gx_get (pc' := 52) hC 0 (atM0 cI cZ a _) rfl inw_X9 21 (by decide) lk_X9_47 rfl rfl dX9_begin_49 ?_
      refine gx_iconst (v := (0 : Int32)) (pc' := 53) hC rfl dX9_begin_52 (by decide) ?_
      refine gx_iload_n (pc' := 54) hC rfl dX9_begin_53 rfl ?_
      refine gx_iast (pc' := 55) hC 13 0 (atM13 cI cZ a _) rfl (st (st (st S 30 16 (1 : Int32)) 30 17 (1 : Int32)) 21 (0 : Int32).toNatClampNeg x1) (stM13 cI cZ a _ _ _) rfl dX9_begin_54 ?_
      refine gx_aload_n (pc' := 56) hC rfl dX9_begin_55 rfl ?_
      refine gx_get (pc' := 59) hC 0 (atM0 cI cZ a _) rfl inw_X9 21 (by decide) lk_X9_47 rfl rfl dX9_begin_56 ?_
      refine gx_iconst (v := (1 : Int32)) (pc' := 60) hC rfl dX9_begin_59 (by decide) ?_
      refine gx_iload_n (pc' := 61) hC rfl dX9_begin_60 rfl ?_
      refine gx_iast (pc' := 62) hC 13 0 (atM13 cI cZ a _) rfl (st (st (st (st S 30 16 (1 : Int32)) 30 17 (1 : Int32)) 21 (0 : Int32).toNatClampNeg x1) 21 (1 : Int32).toNatClampNeg x2) (stM13 cI cZ a _ _ _) rfl dX9_begin_61 ?_
      refine gx_aload_n (pc' := 63) hC rfl dX9_begin_62 rfl ?_
      refine gx_get (pc' := 66) hC 0 (atM0 cI cZ a _) rfl inw_X9 21 (by decide) lk_X9_47 rfl rfl dX9_begin_63 ?_
      refine gx_iconst (v := (2 : Int32)) (pc' := 67) hC rfl dX9_begin_66 (by decide) ?_
      refine gx_iload_n (pc' := 68) hC rfl dX9_begin_67 rfl ?_
      refine gx_iast (pc' := 69) hC 13 0 (atM13 cI cZ a _) rfl (st (st (st (st (st S 30 16 (1 : Int32)) 30 17 (1 : Int32)) 21 (0 : Int32).toNatClampNeg x1) 21 (1 : Int32).toNatClampNeg x2) 21 (2 : Int32).toNatClampNeg x3) (stM13 cI cZ a _ _ _) rfl dX9_begin_68 ?_
      refine gx_aload_n (pc' := 70) hC rfl dX9_begin_69 rfl ?_
      refine gx_iload (pc' := 72) hC rfl dX9_begin_70 rfl ?_
      refine gx_put (pc' := 75) hC tyX9_ok nmX9 0 (atM0 cI cZ a _) rfl inw_X9 20 (by decide) lk_X9_160 rfl rfl rfl (Nat.le_of_ble_eq_true rfl) (st (st (st (st (st (st S 30 16 (1 : Int32)) 30 17 (1 : Int32)) 21 (0 : Int32).toNatClampNeg x1) 21 (1 : Int32).toNatClampNeg x2) 21 (2 : Int32).toNatClampNeg x3) 30 20 x4) (ptM0_20 cI cZ a _ _) rfl dX9_begin_72 ?_
      refine gx_aload_n (pc' := 76) hC rfl dX9_begin_75 rfl ?_
      refine gx_bipush (v := (39 : Int32)) (pc' := 78) hC rfl dX9_begin_76 (by decide) ?_
      refine gx_put (pc' := 81) hC tyX9_ok nmX9 0 (atM0 cI cZ a _) rfl inw_X9 19 (by decide) lk_X9_163 rfl rfl rfl (Nat.le_of_ble_eq_true rfl) (st (st (st (st (st (st (st S 30 16 (1 : Int32)) 30 17 (1 : Int32)) 21 (0 : Int32).toNatClampNeg x1) 21 (1 : Int32).toNatClampNeg x2) 21 (2 : Int32).toNatClampNeg x3) 30 20 x4) 30 19 (39 : Int32)) (ptM0_19 cI cZ a _ _) rfl dX9_begin_78 ?_
      refine gx_aload_n (pc' := 82) hC rfl dX9_begin_81 rfl ?_
      refine gx_get (pc' := 85) hC 0 (atM0 cI cZ a _) rfl inw_X9 22 (by decide) lk_X9_50 rfl rfl dX9_begin_82 ?_
      refine gx_bipush (v := (39 : Int32)) (pc' := 87) hC rfl dX9_begin_85 (by decide) ?_
      refine gx_sipush (v := (255 : Int32)) (pc' := 90) hC rfl dX9_begin_87 (by decide) ?_
      refine gx_iast (pc' := 91) hC 14 0 (atM14 cI cZ a _) rfl (st (st (st (st (st (st (st (st S 30 16 (1 : Int32)) 30 17 (1 : Int32)) 21 (0 : Int32).toNatClampNeg x1) 21 (1 : Int32).toNatClampNeg x2) 21 (2 : Int32).toNatClampNeg x3) 30 20 x4) 30 19 (39 : Int32)) 22 (39 : Int32).toNatClampNeg (255 : Int32)) (stM14 cI cZ a _ _ _) rfl dX9_begin_90 ?_
      refine gx_aload_n (pc' := 92) hC rfl dX9_begin_91 rfl ?_
      refine gx_aload_n (pc' := 93) hC rfl dX9_begin_92 rfl ?_
      refine gx_get (pc' := 96) hC 0 (atM0 cI cZ a _) rfl inw_X9 4 (by decide) lk_X9_13 rfl rfl dX9_begin_93 ?_
      refine gx_iconst (v := (0 : Int32)) (pc' := 97) hC rfl dX9_begin_96 (by decide) ?_
      refine gx_iald (pc' := 98) hC 2 0 (atM2 cI cZ a _) rfl rfl dX9_begin_97 ?_
      refine gx_put (pc' := 101) hC tyX9_ok nmX9 0 (atM0 cI cZ a _) rfl inw_X9 18 (by decide) lk_X9_67 rfl rfl rfl (Nat.le_of_ble_eq_true rfl) (st (st (st (st (st (st (st (st (st S 30 16 (1 : Int32)) 30 17 (1 : Int32)) 21 (0 : Int32).toNatClampNeg x1) 21 (1 : Int32).toNatClampNeg x2) 21 (2 : Int32).toNatClampNeg x3) 30 20 x4) 30 19 (39 : Int32)) 22 (39 : Int32).toNatClampNeg (255 : Int32)) 30 18 ((st (st (st (st (st (st (st (st S 30 16 (1 : Int32)) 30 17 (1 : Int32)) 21 (0 : Int32).toNatClampNeg x1) 21 (1 : Int32).toNatClampNeg x2) 21 (2 : Int32).toNatClampNeg x3) 30 20 x4) 30 19 (39 : Int32)) 22 (39 : Int32).toNatClampNeg (255 : Int32)) 4 (0 : Int32).toNatClampNeg)) (ptM0_18 cI cZ a _ _) rfl dX9_begin_98 ?_
      refine gx_aload_n (pc' := 102) hC rfl dX9_begin_101 rfl ?_
      refine gx_iconst (v := (1 : Int32)) (pc' := 103) hC rfl dX9_begin_102 (by decide) ?_
      refine gx_put (pc' := 106) hC tyX9_ok nmX9 0 (atM0 cI cZ a _) rfl inw_X9 23 (by decide) lk_X9_166 rfl rfl rfl (Nat.le_of_ble_eq_true rfl) (st (st (st (st (st (st (st (st (st (st S 30 16 (1 : Int32)) 30 17 (1 : Int32)) 21 (0 : Int32).toNatClampNeg x1) 21 (1 : Int32).toNatClampNeg x2) 21 (2 : Int32).toNatClampNeg x3) 30 20 x4) 30 19 (39 : Int32)) 22 (39 : Int32).toNatClampNeg (255 : Int32)) 30 18 ((st (st (st (st (st (st (st (st S 30 16 (1 : Int32)) 30 17 (1 : Int32)) 21 (0 : Int32).toNatClampNeg x1) 21 (1 : Int32).toNatClampNeg x2) 21 (2 : Int32).toNatClampNeg x3) 30 20 x4) 30 19 (39 : Int32)) 22 (39 : Int32).toNatClampNeg (255 : Int32)) 4 (0 : Int32).toNatClampNeg)) 30 23 (1 : Int32)) (ptM0_23 cI cZ a _ _) rfl dX9_begin_103 ?_
      refine gx_aload_n (pc' := 107) hC rfl dX9_begin_106 rfl ?_
      refine gx_get (pc' := 110) hC 0 (atM0 cI cZ a _) rfl inw_X9 24 (by decide) lk_X9_53 rfl rfl dX9_begin_107 ?_
      refine gx_iconst (v := (0 : Int32)) (pc' := 111) hC rfl dX9_begin_110 (by decide) ?_
      refine gx_sipush (v := (255 : Int32)) (pc' := 114) hC rfl dX9_begin_111 (by decide) ?_
      refine gx_iast (pc' := 115) hC 15 0 (atM15 cI cZ a _) rfl (st (st (st (st (st (st (st (st (st (st (st S 30 16 (1 : Int32)) 30 17 (1 : Int32)) 21 (0 : Int32).toNatClampNeg x1) 21 (1 : Int32).toNatClampNeg x2) 21 (2 : Int32).toNatClampNeg x3) 30 20 x4) 30 19 (39 : Int32)) 22 (39 : Int32).toNatClampNeg (255 : Int32)) 30 18 ((st (st (st (st (st (st (st (st S 30 16 (1 : Int32)) 30 17 (1 : Int32)) 21 (0 : Int32).toNatClampNeg x1) 21 (1 : Int32).toNatClampNeg x2) 21 (2 : Int32).toNatClampNeg x3) 30 20 x4) 30 19 (39 : Int32)) 22 (39 : Int32).toNatClampNeg (255 : Int32)) 4 (0 : Int32).toNatClampNeg)) 30 23 (1 : Int32)) 24 (0 : Int32).toNatClampNeg (255 : Int32)) (stM15 cI cZ a _ _ _) rfl dX9_begin_114 ?_
      refine gx_iconst (v := (1 : Int32)) (pc' := 116) hC rfl dX9_begin_115 (by decide) ?_
      exact gx_zret hC dX9_begin_116
    · refine gx_aload_n (pc' := 25) hC rfl dX9_begin_24 rfl ?_
      refine gx_get (pc' := 28) hC 0 (atM0 cI cZ a _) rfl inw_X9 22 (by decide) lk_X9_50 rfl rfl dX9_begin_25 ?_
      refine gx_iload (pc' := 30) hC rfl dX9_begin_28 rfl ?_
      refine gx_iconst (v := (0 : Int32)) (pc' := 31) hC rfl dX9_begin_30 (by decide) ?_
      refine gx_iast (pc' := 32) hC 14 0 (atM14 cI cZ a _) rfl (st S 22 x5.toNatClampNeg (0 : Int32)) (stM14 cI cZ a _ _ _) rfl dX9_begin_31 ?_
      refine gx_iinc (v := (x5 + (1 : Int32))) (pc' := 35) hC [(5, .int (x5 + (1 : Int32))), (0, .ref (a 0)), (1, .int x1), (2, .int x2), (3, .int x3), (4, .int x4)] rfl dX9_begin_32 rfl rfl (by decide) rfl ?_
      refine gx_goto hC 17 dX9_begin_35 (by decide) ?_
      exact gx_sub [(0, .ref (a 0)), (1, .int x1), (2, .int x2), (3, .int x3), (4, .int x4), (5, .int (x5 + (1 : Int32)))] [1, 2, 3, 4, 5, 0] rfl (ih x1 x2 x3 x4 (x5 + (1 : Int32)) (st S 22 x5.toNatClampNeg (0 : Int32)))
set_option maxHeartbeats 4000000 in
set_option maxRecDepth 100000 in
theorem c_X9_begin {l : Launch} {D : va_G} {tZ : Nat} (cI cZ cR : ClassId) (a : Nat → Nat) (x1 : Int32) (x2 : Int32) (x3 : Int32) (x4 : Int32) (S : St) : MI l D (tyl cI cZ cR) tZ (wM cI cZ a) yX9_begin cX9_begin 6 (some .boolean) rm_X9_begin [.ref (a 0), .int x1, .int x2, .int x3, .int x4] S (m_X9_begin x1 x2 x3 x4 S) := by
  refine gx_metI (by decide) (Nat.le_of_ble_eq_true rfl) ?_
  intro p e s m below meth c A hC
  refine gx_sub [(0, .ref (a 0)), (1, .int x1), (2, .int x2), (3, .int x3), (4, .int x4)] [0, 1, 2, 3, 4] rfl ?_
  rw [m_X9_begin]
  refine gx_aload_n (pc' := 1) hC rfl dX9_begin_0 rfl ?_
  refine gx_iconst (v := (0 : Int32)) (pc' := 2) hC rfl dX9_begin_1 (by decide) ?_
  refine gx_put (pc' := 5) hC tyX9_ok nmX9 0 (atM0 cI cZ a _) rfl inw_X9 0 (by decide) lk_X9_59 rfl rfl rfl (Nat.le_of_ble_eq_true rfl) (st S 30 0 (0 : Int32)) (ptM0_0 cI cZ a _ _) rfl dX9_begin_2 ?_
  refine gx_aload_n (pc' := 6) hC rfl dX9_begin_5 rfl ?_
  refine gx_get (pc' := 9) hC 0 (atM0 cI cZ a _) rfl inw_X9 3 (by decide) lk_X9_76 rfl rfl dX9_begin_6 ?_
  refine gx_if_ne (pc' := 12) hC 14 rfl dX9_begin_9 (by decide) (fun h1 => ?_) (fun h1 => ?_)
  · refine gx_iconst (v := (0 : Int32)) (pc' := 13) hC rfl dX9_begin_12 (by decide) ?_
    exact gx_zret hC dX9_begin_13
  · refine gx_iconst (v := (0 : Int32)) (pc' := 15) hC rfl dX9_begin_14 (by decide) ?_
    refine gx_istore (pc' := 17) hC [(5, .int (0 : Int32)), (0, .ref (a 0)), (1, .int x1), (2, .int x2), (3, .int x3), (4, .int x4)] rfl dX9_begin_15 (by decide) rfl ?_
    exact gx_sub [(0, .ref (a 0)), (1, .int x1), (2, .int x2), (3, .int x3), (4, .int x4), (5, .int (0 : Int32))] [1, 2, 3, 4, 5, 0] rfl (g_X9_begin_L17 hC 10000 x1 x2 x3 x4 (0 : Int32) (st S 30 0 (0 : Int32)))
set_option maxHeartbeats 4000000 in
set_option maxRecDepth 100000 in
theorem c_X9_isWord {l : Launch} {D : va_G} {tZ : Nat} (cI cZ cR : ClassId) (a : Nat → Nat) (x0 : Int64) (S : St) : MI l D (tyl cI cZ cR) tZ (wM cI cZ a) yX9_isWord cX9_isWord 2 (some .boolean) rm_X9_isWord [.long x0] S (m_X9_isWord x0 S) := by
  refine gx_metI (by decide) (Nat.le_of_ble_eq_true rfl) ?_
  intro p e s m below meth c A hC
  refine gx_sub [(0, .long x0)] [0] rfl ?_
  rw [m_X9_isWord]
  refine gx_lload_n (pc' := 1) hC rfl dX9_isWord_0 rfl ?_
  refine gx_lconst (v := (0 : Int64)) (pc' := 2) hC rfl dX9_isWord_1 (by decide) ?_
  refine gx_lcmp (pc' := 3) hC rfl dX9_isWord_2 ?_
  refine gx_if_lt (pc' := 6) hC 18 rfl dX9_isWord_3 (by decide) (fun h1 => ?_) (fun h1 => ?_)
  · refine gx_iconst (v := (0 : Int32)) (pc' := 19) hC rfl dX9_isWord_18 (by decide) ?_
    exact gx_zret hC dX9_isWord_19
  · refine gx_lload_n (pc' := 7) hC rfl dX9_isWord_6 rfl ?_
    refine gx_ldc2 (v := (40 : Int64)) (pc' := 10) hC (wa 1015 (by decide +kernel) (by decide +kernel)) rfl dX9_isWord_7 ?_
    refine gx_lcmp (pc' := 11) hC rfl dX9_isWord_10 ?_
    refine gx_if_ge (pc' := 14) hC 18 rfl dX9_isWord_11 (by decide) (fun h2 => ?_) (fun h2 => ?_)
    · refine gx_iconst (v := (0 : Int32)) (pc' := 19) hC rfl dX9_isWord_18 (by decide) ?_
      exact gx_zret hC dX9_isWord_19
    · refine gx_iconst (v := (1 : Int32)) (pc' := 15) hC rfl dX9_isWord_14 (by decide) ?_
      refine gx_goto hC 19 dX9_isWord_15 (by decide) ?_
      exact gx_zret hC dX9_isWord_19
set_option maxHeartbeats 4000000 in
set_option maxRecDepth 100000 in
theorem c_X9_fails {l : Launch} {D : va_G} {tZ : Nat} (cI cZ cR : ClassId) (a : Nat → Nat) (x1 : Int32) (x2 : Int32) (x3 : Int32) (S : St) : MI l D (tyl cI cZ cR) tZ (wM cI cZ a) yX9_fails cX9_fails 4 (some .boolean) rm_X9_fails [.ref (a 0), .int x1, .int x2, .int x3] S (m_X9_fails x1 x2 x3 S) := by
  refine gx_metI (by decide) (Nat.le_of_ble_eq_true rfl) ?_
  intro p e s m below meth c A hC
  refine gx_sub [(0, .ref (a 0)), (1, .int x1), (2, .int x2), (3, .int x3)] [0, 1, 2, 3] rfl ?_
  rw [m_X9_fails]
  refine gx_iload_n (pc' := 1) hC rfl dX9_fails_0 rfl ?_
  refine gx_ite (fun h1 => ?_) (fun h1 => ?_)
  · refine gx_case (v := (1 : Int32)) (off := 75) hC 76 h1 dX9_fails_1 (by decide) ?_
    refine gx_aload_n (pc' := 77) hC rfl dX9_fails_76 rfl ?_
    refine gx_get (pc' := 80) hC 0 (atM0 cI cZ a _) rfl inw_X9 19 (by decide) lk_X9_163 rfl rfl dX9_fails_77 ?_
    refine gx_iconst (v := (1 : Int32)) (pc' := 81) hC rfl dX9_fails_80 (by decide) ?_
    refine gx_icmp_ge (pc' := 84) hC 88 rfl dX9_fails_81 (by decide) (fun h2 => ?_) (fun h2 => ?_)
    · refine gx_iconst (v := (0 : Int32)) (pc' := 89) hC rfl dX9_fails_88 (by decide) ?_
      exact gx_zret hC dX9_fails_89
    · refine gx_iconst (v := (1 : Int32)) (pc' := 85) hC rfl dX9_fails_84 (by decide) ?_
      refine gx_goto hC 89 dX9_fails_85 (by decide) ?_
      exact gx_zret hC dX9_fails_89
  refine gx_ite (fun h3 => ?_) (fun h3 => ?_)
  · refine gx_case (v := (2 : Int32)) (off := 89) hC 90 h3 dX9_fails_1 (by decide) ?_
    refine gx_aload_n (pc' := 91) hC rfl dX9_fails_90 rfl ?_
    refine gx_get (pc' := 94) hC 0 (atM0 cI cZ a _) rfl inw_X9 19 (by decide) lk_X9_163 rfl rfl dX9_fails_91 ?_
    refine gx_i2l (pc' := 95) hC rfl dX9_fails_94 ?_
    refine gx_callSI (pc' := 98) hC (c_X9_isWord cI cZ cR a ((S 30 19).toInt64) _) kw_X9_171 hy_X9_isWord ⟨rfl, rfl⟩ (by decide) rfl rfl (Nat.le_of_ble_eq_true rfl) rfl dX9_fails_95 (fun r1 => ?_)
    refine gx_if_ne (pc' := 101) hC 105 rfl dX9_fails_98 (by decide) (fun h4 => ?_) (fun h4 => ?_)
    · refine gx_iconst (v := (1 : Int32)) (pc' := 102) hC rfl dX9_fails_101 (by decide) ?_
      refine gx_goto hC 106 dX9_fails_102 (by decide) ?_
      exact gx_zret hC dX9_fails_106
    · refine gx_iconst (v := (0 : Int32)) (pc' := 106) hC rfl dX9_fails_105 (by decide) ?_
      exact gx_zret hC dX9_fails_106
  refine gx_ite (fun h5 => ?_) (fun h5 => ?_)
  · refine gx_case (v := (3 : Int32)) (off := 106) hC 107 h5 dX9_fails_1 (by decide) ?_
    refine gx_aload_n (pc' := 108) hC rfl dX9_fails_107 rfl ?_
    refine gx_get (pc' := 111) hC 0 (atM0 cI cZ a _) rfl inw_X9 19 (by decide) lk_X9_163 rfl rfl dX9_fails_108 ?_
    refine gx_iload_n (pc' := 112) hC rfl dX9_fails_111 rfl ?_
    refine gx_isub (pc' := 113) hC rfl dX9_fails_112 ?_
    refine gx_if_ge (pc' := 116) hC 120 rfl dX9_fails_113 (by decide) (fun h6 => ?_) (fun h6 => ?_)
    · refine gx_iconst (v := (0 : Int32)) (pc' := 121) hC rfl dX9_fails_120 (by decide) ?_
      exact gx_zret hC dX9_fails_121
    · refine gx_iconst (v := (1 : Int32)) (pc' := 117) hC rfl dX9_fails_116 (by decide) ?_
      refine gx_goto hC 121 dX9_fails_117 (by decide) ?_
      exact gx_zret hC dX9_fails_121
  refine gx_ite (fun h7 => ?_) (fun h7 => ?_)
  · refine gx_case (v := (4 : Int32)) (off := 121) hC 122 h7 dX9_fails_1 (by decide) ?_
    refine gx_aload_n (pc' := 123) hC rfl dX9_fails_122 rfl ?_
    refine gx_get (pc' := 126) hC 0 (atM0 cI cZ a _) rfl inw_X9 19 (by decide) lk_X9_163 rfl rfl dX9_fails_123 ?_
    refine gx_iload_n (pc' := 127) hC rfl dX9_fails_126 rfl ?_
    refine gx_iadd (pc' := 128) hC rfl dX9_fails_127 ?_
    refine gx_bipush (v := (40 : Int32)) (pc' := 130) hC rfl dX9_fails_128 (by decide) ?_
    refine gx_icmp_le (pc' := 133) hC 137 rfl dX9_fails_130 (by decide) (fun h8 => ?_) (fun h8 => ?_)
    · refine gx_iconst (v := (0 : Int32)) (pc' := 138) hC rfl dX9_fails_137 (by decide) ?_
      exact gx_zret hC dX9_fails_138
    · refine gx_iconst (v := (1 : Int32)) (pc' := 134) hC rfl dX9_fails_133 (by decide) ?_
      refine gx_goto hC 138 dX9_fails_134 (by decide) ?_
      exact gx_zret hC dX9_fails_138
  refine gx_ite (fun h9 => ?_) (fun h9 => ?_)
  · refine gx_case (v := (5 : Int32)) (off := 206) hC 207 h9 dX9_fails_1 (by decide) ?_
    refine gx_iconst (v := (0 : Int32)) (pc' := 208) hC rfl dX9_fails_207 (by decide) ?_
    exact gx_zret hC dX9_fails_208
  refine gx_ite (fun h10 => ?_) (fun h10 => ?_)
  · refine gx_case (v := (6 : Int32)) (off := 138) hC 139 h10 dX9_fails_1 (by decide) ?_
    refine gx_aload_n (pc' := 140) hC rfl dX9_fails_139 rfl ?_
    refine gx_get (pc' := 143) hC 0 (atM0 cI cZ a _) rfl inw_X9 21 (by decide) lk_X9_47 rfl rfl dX9_fails_140 ?_
    refine gx_iconst (v := (0 : Int32)) (pc' := 144) hC rfl dX9_fails_143 (by decide) ?_
    refine gx_iald (pc' := 145) hC 13 0 (atM13 cI cZ a _) rfl rfl dX9_fails_144 ?_
    refine gx_if_lt (pc' := 148) hC 159 rfl dX9_fails_145 (by decide) (fun h11 => ?_) (fun h11 => ?_)
    · refine gx_iconst (v := (1 : Int32)) (pc' := 160) hC rfl dX9_fails_159 (by decide) ?_
      refine gx_goto hC 164 dX9_fails_160 (by decide) ?_
      exact gx_zret hC dX9_fails_164
    · refine gx_aload_n (pc' := 149) hC rfl dX9_fails_148 rfl ?_
      refine gx_get (pc' := 152) hC 0 (atM0 cI cZ a _) rfl inw_X9 21 (by decide) lk_X9_47 rfl rfl dX9_fails_149 ?_
      refine gx_iconst (v := (0 : Int32)) (pc' := 153) hC rfl dX9_fails_152 (by decide) ?_
      refine gx_iald (pc' := 154) hC 13 0 (atM13 cI cZ a _) rfl rfl dX9_fails_153 ?_
      refine gx_bipush (v := (40 : Int32)) (pc' := 156) hC rfl dX9_fails_154 (by decide) ?_
      refine gx_icmp_le (pc' := 159) hC 163 rfl dX9_fails_156 (by decide) (fun h12 => ?_) (fun h12 => ?_)
      · refine gx_iconst (v := (0 : Int32)) (pc' := 164) hC rfl dX9_fails_163 (by decide) ?_
        exact gx_zret hC dX9_fails_164
      · refine gx_iconst (v := (1 : Int32)) (pc' := 160) hC rfl dX9_fails_159 (by decide) ?_
        refine gx_goto hC 164 dX9_fails_160 (by decide) ?_
        exact gx_zret hC dX9_fails_164
  refine gx_ite (fun h13 => ?_) (fun h13 => ?_)
  · refine gx_case (v := (7 : Int32)) (off := 164) hC 165 h13 dX9_fails_1 (by decide) ?_
    refine gx_aload_n (pc' := 166) hC rfl dX9_fails_165 rfl ?_
    refine gx_get (pc' := 169) hC 0 (atM0 cI cZ a _) rfl inw_X9 19 (by decide) lk_X9_163 rfl rfl dX9_fails_166 ?_
    refine gx_iconst (v := (1 : Int32)) (pc' := 170) hC rfl dX9_fails_169 (by decide) ?_
    refine gx_icmp_lt (pc' := 173) hC 182 rfl dX9_fails_170 (by decide) (fun h14 => ?_) (fun h14 => ?_)
    · refine gx_iconst (v := (1 : Int32)) (pc' := 183) hC rfl dX9_fails_182 (by decide) ?_
      refine gx_goto hC 187 dX9_fails_183 (by decide) ?_
      exact gx_zret hC dX9_fails_187
    · refine gx_aload_n (pc' := 174) hC rfl dX9_fails_173 rfl ?_
      refine gx_get (pc' := 177) hC 0 (atM0 cI cZ a _) rfl inw_X9 23 (by decide) lk_X9_166 rfl rfl dX9_fails_174 ?_
      refine gx_bipush (v := (40 : Int32)) (pc' := 179) hC rfl dX9_fails_177 (by decide) ?_
      refine gx_icmp_ne (pc' := 182) hC 186 rfl dX9_fails_179 (by decide) (fun h15 => ?_) (fun h15 => ?_)
      · refine gx_iconst (v := (1 : Int32)) (pc' := 183) hC rfl dX9_fails_182 (by decide) ?_
        refine gx_goto hC 187 dX9_fails_183 (by decide) ?_
        exact gx_zret hC dX9_fails_187
      · refine gx_iconst (v := (0 : Int32)) (pc' := 187) hC rfl dX9_fails_186 (by decide) ?_
        exact gx_zret hC dX9_fails_187
  refine gx_ite (fun h16 => ?_) (fun h16 => ?_)
  · refine gx_case (v := (8 : Int32)) (off := 89) hC 90 h16 dX9_fails_1 (by decide) ?_
    refine gx_aload_n (pc' := 91) hC rfl dX9_fails_90 rfl ?_
    refine gx_get (pc' := 94) hC 0 (atM0 cI cZ a _) rfl inw_X9 19 (by decide) lk_X9_163 rfl rfl dX9_fails_91 ?_
    refine gx_i2l (pc' := 95) hC rfl dX9_fails_94 ?_
    refine gx_callSI (pc' := 98) hC (c_X9_isWord cI cZ cR a ((S 30 19).toInt64) _) kw_X9_171 hy_X9_isWord ⟨rfl, rfl⟩ (by decide) rfl rfl (Nat.le_of_ble_eq_true rfl) rfl dX9_fails_95 (fun r2 => ?_)
    refine gx_if_ne (pc' := 101) hC 105 rfl dX9_fails_98 (by decide) (fun h17 => ?_) (fun h17 => ?_)
    · refine gx_iconst (v := (1 : Int32)) (pc' := 102) hC rfl dX9_fails_101 (by decide) ?_
      refine gx_goto hC 106 dX9_fails_102 (by decide) ?_
      exact gx_zret hC dX9_fails_106
    · refine gx_iconst (v := (0 : Int32)) (pc' := 106) hC rfl dX9_fails_105 (by decide) ?_
      exact gx_zret hC dX9_fails_106
  refine gx_ite (fun h18 => ?_) (fun h18 => ?_)
  · refine gx_case (v := (9 : Int32)) (off := 206) hC 207 h18 dX9_fails_1 (by decide) ?_
    refine gx_iconst (v := (0 : Int32)) (pc' := 208) hC rfl dX9_fails_207 (by decide) ?_
    exact gx_zret hC dX9_fails_208
  refine gx_ite (fun h19 => ?_) (fun h19 => ?_)
  · refine gx_case (v := (10 : Int32)) (off := 206) hC 207 h19 dX9_fails_1 (by decide) ?_
    refine gx_iconst (v := (0 : Int32)) (pc' := 208) hC rfl dX9_fails_207 (by decide) ?_
    exact gx_zret hC dX9_fails_208
  refine gx_ite (fun h20 => ?_) (fun h20 => ?_)
  · refine gx_case (v := (11 : Int32)) (off := 206) hC 207 h20 dX9_fails_1 (by decide) ?_
    refine gx_iconst (v := (0 : Int32)) (pc' := 208) hC rfl dX9_fails_207 (by decide) ?_
    exact gx_zret hC dX9_fails_208
  refine gx_ite (fun h21 => ?_) (fun h21 => ?_)
  · refine gx_case (v := (12 : Int32)) (off := 206) hC 207 h21 dX9_fails_1 (by decide) ?_
    refine gx_iconst (v := (0 : Int32)) (pc' := 208) hC rfl dX9_fails_207 (by decide) ?_
    exact gx_zret hC dX9_fails_208
  refine gx_ite (fun h22 => ?_) (fun h22 => ?_)
  · refine gx_case (v := (13 : Int32)) (off := 206) hC 207 h22 dX9_fails_1 (by decide) ?_
    refine gx_iconst (v := (0 : Int32)) (pc' := 208) hC rfl dX9_fails_207 (by decide) ?_
    exact gx_zret hC dX9_fails_208
  refine gx_ite (fun h23 => ?_) (fun h23 => ?_)
  · refine gx_case (v := (14 : Int32)) (off := 187) hC 188 h23 dX9_fails_1 (by decide) ?_
    refine gx_aload_n (pc' := 189) hC rfl dX9_fails_188 rfl ?_
    refine gx_get (pc' := 192) hC 0 (atM0 cI cZ a _) rfl inw_X9 19 (by decide) lk_X9_163 rfl rfl dX9_fails_189 ?_
    refine gx_iload_n (pc' := 193) hC rfl dX9_fails_192 rfl ?_
    refine gx_iadd (pc' := 194) hC rfl dX9_fails_193 ?_
    refine gx_i2l (pc' := 195) hC rfl dX9_fails_194 ?_
    refine gx_callSI (pc' := 198) hC (c_X9_isWord cI cZ cR a (((S 30 19) + x3).toInt64) _) kw_X9_171 hy_X9_isWord ⟨rfl, rfl⟩ (by decide) rfl rfl (Nat.le_of_ble_eq_true rfl) rfl dX9_fails_195 (fun r3 => ?_)
    refine gx_if_ne (pc' := 201) hC 205 rfl dX9_fails_198 (by decide) (fun h24 => ?_) (fun h24 => ?_)
    · refine gx_iconst (v := (1 : Int32)) (pc' := 202) hC rfl dX9_fails_201 (by decide) ?_
      refine gx_goto hC 206 dX9_fails_202 (by decide) ?_
      exact gx_zret hC dX9_fails_206
    · refine gx_iconst (v := (0 : Int32)) (pc' := 206) hC rfl dX9_fails_205 (by decide) ?_
      exact gx_zret hC dX9_fails_206
  refine gx_ite (fun h25 => ?_) (fun h25 => ?_)
  · refine gx_case (v := (15 : Int32)) (off := 187) hC 188 h25 dX9_fails_1 (by decide) ?_
    refine gx_aload_n (pc' := 189) hC rfl dX9_fails_188 rfl ?_
    refine gx_get (pc' := 192) hC 0 (atM0 cI cZ a _) rfl inw_X9 19 (by decide) lk_X9_163 rfl rfl dX9_fails_189 ?_
    refine gx_iload_n (pc' := 193) hC rfl dX9_fails_192 rfl ?_
    refine gx_iadd (pc' := 194) hC rfl dX9_fails_193 ?_
    refine gx_i2l (pc' := 195) hC rfl dX9_fails_194 ?_
    refine gx_callSI (pc' := 198) hC (c_X9_isWord cI cZ cR a (((S 30 19) + x3).toInt64) _) kw_X9_171 hy_X9_isWord ⟨rfl, rfl⟩ (by decide) rfl rfl (Nat.le_of_ble_eq_true rfl) rfl dX9_fails_195 (fun r4 => ?_)
    refine gx_if_ne (pc' := 201) hC 205 rfl dX9_fails_198 (by decide) (fun h26 => ?_) (fun h26 => ?_)
    · refine gx_iconst (v := (1 : Int32)) (pc' := 202) hC rfl dX9_fails_201 (by decide) ?_
      refine gx_goto hC 206 dX9_fails_202 (by decide) ?_
      exact gx_zret hC dX9_fails_206
    · refine gx_iconst (v := (0 : Int32)) (pc' := 206) hC rfl dX9_fails_205 (by decide) ?_
      exact gx_zret hC dX9_fails_206
  refine gx_dflt hC 207 dX9_fails_1 (by have := lv_neT h1 (show ((1 : Int32)).toInt = 1 by decide); have := lv_neT h3 (show ((2 : Int32)).toInt = 2 by decide); have := lv_neT h5 (show ((3 : Int32)).toInt = 3 by decide); have := lv_neT h7 (show ((4 : Int32)).toInt = 4 by decide); have := lv_neT h9 (show ((5 : Int32)).toInt = 5 by decide); have := lv_neT h10 (show ((6 : Int32)).toInt = 6 by decide); have := lv_neT h13 (show ((7 : Int32)).toInt = 7 by decide); have := lv_neT h16 (show ((8 : Int32)).toInt = 8 by decide); have := lv_neT h18 (show ((9 : Int32)).toInt = 9 by decide); have := lv_neT h19 (show ((10 : Int32)).toInt = 10 by decide); have := lv_neT h20 (show ((11 : Int32)).toInt = 11 by decide); have := lv_neT h21 (show ((12 : Int32)).toInt = 12 by decide); have := lv_neT h22 (show ((13 : Int32)).toInt = 13 by decide); have := lv_neT h23 (show ((14 : Int32)).toInt = 14 by decide); have := lv_neT h25 (show ((15 : Int32)).toInt = 15 by decide); omega) (by decide) ?_
  refine gx_iconst (v := (0 : Int32)) (pc' := 208) hC rfl dX9_fails_207 (by decide) ?_
  exact gx_zret hC dX9_fails_208
