def wX (cI cZ cR : ClassId) (a : Nat → Nat) (S : St) : va_W := [
  (a 0, .inr (8, [.ref (a 1), .ref (a 5), .ref (a 11), .ref (a 13), .ref (a 15), .ref (a 19)])),
  (a 1, .inr (4, [.ref (a 2), .ref (a 3), .ref (a 4), .int (S 20 0), .int (S 20 1)])),
  (a 2, .inl (cI, 96, .inl (S 0))),
  (a 3, .inl (cI, 5, .inl (S 1))),
  (a 4, .inl (cI, 5, .inl (S 2))),
  (a 5, .inr (3, [.ref (a 1), .ref (a 11), .ref (a 6), .ref (a 21), .ref (a 23)])),
  (a 6, .inr (1, [.ref (a 1), .ref (a 7), .ref (a 8), .ref (a 9), .ref (a 10), .int (S 20 2), .int (S 20 3), .int (S 20 4), .int (S 20 5)])),
  (a 7, .inl (cI, 97, .inl (S 3))),
  (a 8, .inl (cZ, 97, .inl (S 4))),
  (a 9, .inl (cI, 485, .inl (S 5))),
  (a 10, .inl (cI, 3, .inl (S 6))),
  (a 11, .inr (7, [.ref (a 12), .int (S 20 6)])),
  (a 12, .inl (cI, 1076, .inl (S 7))),
  (a 13, .inr (5, [.ref (a 11), .ref (a 25), .ref (a 27), .ref (a 14), .int (S 20 7), .int (S 20 8), .int (S 20 9)])),
  (a 14, .inl (cR, 4, .inr (.inr (.inr (.inr (fun k => some (a (21 + 2 * (4 + k))))))))),
  (a 15, .inr (2, [.ref (a 1), .ref (a 16), .ref (a 17), .ref (a 18), .int (S 20 10), .int (S 20 11), .int (S 20 12), .int (S 20 13), .int (S 20 14), .int (S 20 15)])),
  (a 16, .inl (cI, 40, .inl (S 8))),
  (a 17, .inl (cI, 3, .inl (S 9))),
  (a 18, .inl (cI, 40, .inl (S 10))),
  (a 19, .inr (0, [.ref (a 15), .ref (a 13), .ref (a 20), .int (S 20 16)])),
  (a 20, .inl (cI, 100, .inl (S 11))),
  (a 21, .inr (6, [.int (S 20 17), .int (S 20 18), .ref (a 22)])),
  (a 22, .inl (cI, 3, .inl (S 12))),
  (a 23, .inr (6, [.int (S 20 19), .int (S 20 20), .ref (a 24)])),
  (a 24, .inl (cI, 3, .inl (S 13))),
  (a 25, .inr (6, [.int (S 20 21), .int (S 20 22), .ref (a 26)])),
  (a 26, .inl (cI, 3, .inl (S 14))),
  (a 27, .inr (6, [.int (S 20 23), .int (S 20 24), .ref (a 28)])),
  (a 28, .inl (cI, 3, .inl (S 15))),
  (a 29, .inr (6, [.int (S 20 25), .int (S 20 26), .ref (a 30)])),
  (a 30, .inl (cI, 3, .inl (S 16))),
  (a 31, .inr (6, [.int (S 20 27), .int (S 20 28), .ref (a 32)])),
  (a 32, .inl (cI, 3, .inl (S 17))),
  (a 33, .inr (6, [.int (S 20 29), .int (S 20 30), .ref (a 34)])),
  (a 34, .inl (cI, 3, .inl (S 18))),
  (a 35, .inr (6, [.int (S 20 31), .int (S 20 32), .ref (a 36)])),
  (a 36, .inl (cI, 3, .inl (S 19)))]
def wM (cI cZ : ClassId) (a : Nat → Nat) (S : St) : va_W := [
  (a 0, .inr (9, [.int (S 30 0), .ref (a 1), .int (S 30 2), .int (S 30 3), .ref (a 2), .ref (a 3), .ref (a 4), .ref (a 5), .ref (a 6), .ref (a 7), .ref (a 8), .ref (a 9), .int (S 30 12), .ref (a 10), .ref (a 11), .ref (a 12), .int (S 30 16), .int (S 30 17), .int (S 30 18), .int (S 30 19), .int (S 30 20), .ref (a 13), .ref (a 14), .int (S 30 23), .ref (a 15), .int (S 30 25), .ref (a 16), .int (S 30 27), .int (S 30 28)])),
  (a 1, .inl (cI, 96, .inl (S 1))),
  (a 2, .inl (cI, 5, .inl (S 4))),
  (a 3, .inl (cI, 5, .inl (S 5))),
  (a 4, .inl (cI, 485, .inl (S 6))),
  (a 5, .inl (cZ, 97, .inl (S 7))),
  (a 6, .inl (cZ, 97, .inl (S 8))),
  (a 7, .inl (cI, 5, .inl (S 9))),
  (a 8, .inl (cI, 6000, .inl (S 10))),
  (a 9, .inl (cI, 6000, .inl (S 11))),
  (a 10, .inl (cI, 5, .inl (S 13))),
  (a 11, .inl (cI, 5, .inl (S 14))),
  (a 12, .inl (cI, 20, .inl (S 15))),
  (a 13, .inl (cI, 3, .inl (S 21))),
  (a 14, .inl (cI, 40, .inl (S 22))),
  (a 15, .inl (cI, 40, .inl (S 24))),
  (a 16, .inl (cI, 100, .inl (S 26)))]
abbrev tyl (cI cZ cR : ClassId) : List (ClassId × FieldType) := [(cI, .int), (cZ, .boolean), (cR, .object RX6)]
abbrev KI (below : List Frame) (D : va_G) (tys : List (ClassId × FieldType)) (w : St → va_W) (A : Nat → Prop) (args : Array Value) (s : State) : Int32 × St → State → Prop := fun res => MQ below (QI D tys w A res) args s 0 0 A
abbrev KV (below : List Frame) (D : va_G) (tys : List (ClassId × FieldType)) (w : St → va_W) (A : Nat → Prop) (args : Array Value) (s : State) : Int32 × St → State → Prop := fun res => MQ below (QV D tys w A res) args s 0 0 A
theorem gx_none {p : Program} {l : Launch} {e : Env} {R : Room} {s : State} {m : MethodId} {args : Array Value} {below : List Frame} {meth : Method} {c : Code} {nL : Nat} {D : va_G} {A : Nat → Prop} {w : St → va_W} {K : Int32 × St → State → Prop} {pc : Nat} {L : List (Nat × Value)} {stk : List Value} {S : St} : GX p l e R s m args below meth c nL D A w K pc L stk S none := fun res hM => by cases hM
theorem atX0 (cI cZ cR : ClassId) (a : Nat → Nat) (S : St) : (wX cI cZ cR a S)[0]? = some (a 0, .inr (8, [.ref (a 1), .ref (a 5), .ref (a 11), .ref (a 13), .ref (a 15), .ref (a 19)])) := rfl
theorem atX1 (cI cZ cR : ClassId) (a : Nat → Nat) (S : St) : (wX cI cZ cR a S)[1]? = some (a 1, .inr (4, [.ref (a 2), .ref (a 3), .ref (a 4), .int (S 20 0), .int (S 20 1)])) := rfl
theorem atX2 (cI cZ cR : ClassId) (a : Nat → Nat) (S : St) : (wX cI cZ cR a S)[2]? = some (a 2, .inl (cI, 96, .inl (S 0))) := rfl
theorem atX3 (cI cZ cR : ClassId) (a : Nat → Nat) (S : St) : (wX cI cZ cR a S)[3]? = some (a 3, .inl (cI, 5, .inl (S 1))) := rfl
theorem atX4 (cI cZ cR : ClassId) (a : Nat → Nat) (S : St) : (wX cI cZ cR a S)[4]? = some (a 4, .inl (cI, 5, .inl (S 2))) := rfl
theorem atX5 (cI cZ cR : ClassId) (a : Nat → Nat) (S : St) : (wX cI cZ cR a S)[5]? = some (a 5, .inr (3, [.ref (a 1), .ref (a 11), .ref (a 6), .ref (a 21), .ref (a 23)])) := rfl
theorem atX6 (cI cZ cR : ClassId) (a : Nat → Nat) (S : St) : (wX cI cZ cR a S)[6]? = some (a 6, .inr (1, [.ref (a 1), .ref (a 7), .ref (a 8), .ref (a 9), .ref (a 10), .int (S 20 2), .int (S 20 3), .int (S 20 4), .int (S 20 5)])) := rfl
theorem atX7 (cI cZ cR : ClassId) (a : Nat → Nat) (S : St) : (wX cI cZ cR a S)[7]? = some (a 7, .inl (cI, 97, .inl (S 3))) := rfl
theorem atX8 (cI cZ cR : ClassId) (a : Nat → Nat) (S : St) : (wX cI cZ cR a S)[8]? = some (a 8, .inl (cZ, 97, .inl (S 4))) := rfl
theorem atX9 (cI cZ cR : ClassId) (a : Nat → Nat) (S : St) : (wX cI cZ cR a S)[9]? = some (a 9, .inl (cI, 485, .inl (S 5))) := rfl
theorem atX10 (cI cZ cR : ClassId) (a : Nat → Nat) (S : St) : (wX cI cZ cR a S)[10]? = some (a 10, .inl (cI, 3, .inl (S 6))) := rfl
theorem atX11 (cI cZ cR : ClassId) (a : Nat → Nat) (S : St) : (wX cI cZ cR a S)[11]? = some (a 11, .inr (7, [.ref (a 12), .int (S 20 6)])) := rfl
theorem atX12 (cI cZ cR : ClassId) (a : Nat → Nat) (S : St) : (wX cI cZ cR a S)[12]? = some (a 12, .inl (cI, 1076, .inl (S 7))) := rfl
theorem atX13 (cI cZ cR : ClassId) (a : Nat → Nat) (S : St) : (wX cI cZ cR a S)[13]? = some (a 13, .inr (5, [.ref (a 11), .ref (a 25), .ref (a 27), .ref (a 14), .int (S 20 7), .int (S 20 8), .int (S 20 9)])) := rfl
theorem atX14 (cI cZ cR : ClassId) (a : Nat → Nat) (S : St) : (wX cI cZ cR a S)[14]? = some (a 14, .inl (cR, 4, .inr (.inr (.inr (.inr (fun k => some (a (21 + 2 * (4 + k))))))))) := rfl
theorem atX15 (cI cZ cR : ClassId) (a : Nat → Nat) (S : St) : (wX cI cZ cR a S)[15]? = some (a 15, .inr (2, [.ref (a 1), .ref (a 16), .ref (a 17), .ref (a 18), .int (S 20 10), .int (S 20 11), .int (S 20 12), .int (S 20 13), .int (S 20 14), .int (S 20 15)])) := rfl
theorem atX16 (cI cZ cR : ClassId) (a : Nat → Nat) (S : St) : (wX cI cZ cR a S)[16]? = some (a 16, .inl (cI, 40, .inl (S 8))) := rfl
theorem atX17 (cI cZ cR : ClassId) (a : Nat → Nat) (S : St) : (wX cI cZ cR a S)[17]? = some (a 17, .inl (cI, 3, .inl (S 9))) := rfl
theorem atX18 (cI cZ cR : ClassId) (a : Nat → Nat) (S : St) : (wX cI cZ cR a S)[18]? = some (a 18, .inl (cI, 40, .inl (S 10))) := rfl
theorem atX19 (cI cZ cR : ClassId) (a : Nat → Nat) (S : St) : (wX cI cZ cR a S)[19]? = some (a 19, .inr (0, [.ref (a 15), .ref (a 13), .ref (a 20), .int (S 20 16)])) := rfl
theorem atX20 (cI cZ cR : ClassId) (a : Nat → Nat) (S : St) : (wX cI cZ cR a S)[20]? = some (a 20, .inl (cI, 100, .inl (S 11))) := rfl
theorem atX21 (cI cZ cR : ClassId) (a : Nat → Nat) (S : St) : (wX cI cZ cR a S)[21]? = some (a 21, .inr (6, [.int (S 20 17), .int (S 20 18), .ref (a 22)])) := rfl
theorem atX22 (cI cZ cR : ClassId) (a : Nat → Nat) (S : St) : (wX cI cZ cR a S)[22]? = some (a 22, .inl (cI, 3, .inl (S 12))) := rfl
theorem atX23 (cI cZ cR : ClassId) (a : Nat → Nat) (S : St) : (wX cI cZ cR a S)[23]? = some (a 23, .inr (6, [.int (S 20 19), .int (S 20 20), .ref (a 24)])) := rfl
theorem atX24 (cI cZ cR : ClassId) (a : Nat → Nat) (S : St) : (wX cI cZ cR a S)[24]? = some (a 24, .inl (cI, 3, .inl (S 13))) := rfl
theorem atX25 (cI cZ cR : ClassId) (a : Nat → Nat) (S : St) : (wX cI cZ cR a S)[25]? = some (a 25, .inr (6, [.int (S 20 21), .int (S 20 22), .ref (a 26)])) := rfl
theorem atX26 (cI cZ cR : ClassId) (a : Nat → Nat) (S : St) : (wX cI cZ cR a S)[26]? = some (a 26, .inl (cI, 3, .inl (S 14))) := rfl
theorem atX27 (cI cZ cR : ClassId) (a : Nat → Nat) (S : St) : (wX cI cZ cR a S)[27]? = some (a 27, .inr (6, [.int (S 20 23), .int (S 20 24), .ref (a 28)])) := rfl
theorem atX28 (cI cZ cR : ClassId) (a : Nat → Nat) (S : St) : (wX cI cZ cR a S)[28]? = some (a 28, .inl (cI, 3, .inl (S 15))) := rfl
theorem atX29 (cI cZ cR : ClassId) (a : Nat → Nat) (S : St) : (wX cI cZ cR a S)[29]? = some (a 29, .inr (6, [.int (S 20 25), .int (S 20 26), .ref (a 30)])) := rfl
theorem atX30 (cI cZ cR : ClassId) (a : Nat → Nat) (S : St) : (wX cI cZ cR a S)[30]? = some (a 30, .inl (cI, 3, .inl (S 16))) := rfl
theorem atX31 (cI cZ cR : ClassId) (a : Nat → Nat) (S : St) : (wX cI cZ cR a S)[31]? = some (a 31, .inr (6, [.int (S 20 27), .int (S 20 28), .ref (a 32)])) := rfl
theorem atX32 (cI cZ cR : ClassId) (a : Nat → Nat) (S : St) : (wX cI cZ cR a S)[32]? = some (a 32, .inl (cI, 3, .inl (S 17))) := rfl
theorem atX33 (cI cZ cR : ClassId) (a : Nat → Nat) (S : St) : (wX cI cZ cR a S)[33]? = some (a 33, .inr (6, [.int (S 20 29), .int (S 20 30), .ref (a 34)])) := rfl
theorem atX34 (cI cZ cR : ClassId) (a : Nat → Nat) (S : St) : (wX cI cZ cR a S)[34]? = some (a 34, .inl (cI, 3, .inl (S 18))) := rfl
theorem atX35 (cI cZ cR : ClassId) (a : Nat → Nat) (S : St) : (wX cI cZ cR a S)[35]? = some (a 35, .inr (6, [.int (S 20 31), .int (S 20 32), .ref (a 36)])) := rfl
theorem atX36 (cI cZ cR : ClassId) (a : Nat → Nat) (S : St) : (wX cI cZ cR a S)[36]? = some (a 36, .inl (cI, 3, .inl (S 19))) := rfl
theorem ptX1_3 (cI cZ cR : ClassId) (a : Nat → Nat) (S : St) (v : Int32) : (wX cI cZ cR a S).set 1 (a 1, .inr (4, ([.ref (a 2), .ref (a 3), .ref (a 4), .int (S 20 0), .int (S 20 1)] : List Value).set 3 (.int v))) = wX cI cZ cR a (st S 20 0 v) := rfl
theorem ptX1_4 (cI cZ cR : ClassId) (a : Nat → Nat) (S : St) (v : Int32) : (wX cI cZ cR a S).set 1 (a 1, .inr (4, ([.ref (a 2), .ref (a 3), .ref (a 4), .int (S 20 0), .int (S 20 1)] : List Value).set 4 (.int v))) = wX cI cZ cR a (st S 20 1 v) := rfl
theorem stX2 (cI cZ cR : ClassId) (a : Nat → Nat) (S : St) (i : Nat) (v : Int32) : (wX cI cZ cR a S).set 2 (a 2, .inl (cI, 96, .inl (upd (S 0) i v))) = wX cI cZ cR a (st S 0 i v) := rfl
theorem stX3 (cI cZ cR : ClassId) (a : Nat → Nat) (S : St) (i : Nat) (v : Int32) : (wX cI cZ cR a S).set 3 (a 3, .inl (cI, 5, .inl (upd (S 1) i v))) = wX cI cZ cR a (st S 1 i v) := rfl
theorem stX4 (cI cZ cR : ClassId) (a : Nat → Nat) (S : St) (i : Nat) (v : Int32) : (wX cI cZ cR a S).set 4 (a 4, .inl (cI, 5, .inl (upd (S 2) i v))) = wX cI cZ cR a (st S 2 i v) := rfl
theorem ptX6_5 (cI cZ cR : ClassId) (a : Nat → Nat) (S : St) (v : Int32) : (wX cI cZ cR a S).set 6 (a 6, .inr (1, ([.ref (a 1), .ref (a 7), .ref (a 8), .ref (a 9), .ref (a 10), .int (S 20 2), .int (S 20 3), .int (S 20 4), .int (S 20 5)] : List Value).set 5 (.int v))) = wX cI cZ cR a (st S 20 2 v) := rfl
theorem ptX6_6 (cI cZ cR : ClassId) (a : Nat → Nat) (S : St) (v : Int32) : (wX cI cZ cR a S).set 6 (a 6, .inr (1, ([.ref (a 1), .ref (a 7), .ref (a 8), .ref (a 9), .ref (a 10), .int (S 20 2), .int (S 20 3), .int (S 20 4), .int (S 20 5)] : List Value).set 6 (.int v))) = wX cI cZ cR a (st S 20 3 v) := rfl
theorem ptX6_7 (cI cZ cR : ClassId) (a : Nat → Nat) (S : St) (v : Int32) : (wX cI cZ cR a S).set 6 (a 6, .inr (1, ([.ref (a 1), .ref (a 7), .ref (a 8), .ref (a 9), .ref (a 10), .int (S 20 2), .int (S 20 3), .int (S 20 4), .int (S 20 5)] : List Value).set 7 (.int v))) = wX cI cZ cR a (st S 20 4 v) := rfl
theorem ptX6_8 (cI cZ cR : ClassId) (a : Nat → Nat) (S : St) (v : Int32) : (wX cI cZ cR a S).set 6 (a 6, .inr (1, ([.ref (a 1), .ref (a 7), .ref (a 8), .ref (a 9), .ref (a 10), .int (S 20 2), .int (S 20 3), .int (S 20 4), .int (S 20 5)] : List Value).set 8 (.int v))) = wX cI cZ cR a (st S 20 5 v) := rfl
theorem stX7 (cI cZ cR : ClassId) (a : Nat → Nat) (S : St) (i : Nat) (v : Int32) : (wX cI cZ cR a S).set 7 (a 7, .inl (cI, 97, .inl (upd (S 3) i v))) = wX cI cZ cR a (st S 3 i v) := rfl
theorem stX8 (cI cZ cR : ClassId) (a : Nat → Nat) (S : St) (i : Nat) (v : Int32) : (wX cI cZ cR a S).set 8 (a 8, .inl (cZ, 97, .inl (upd (S 4) i v))) = wX cI cZ cR a (st S 4 i v) := rfl
theorem stX9 (cI cZ cR : ClassId) (a : Nat → Nat) (S : St) (i : Nat) (v : Int32) : (wX cI cZ cR a S).set 9 (a 9, .inl (cI, 485, .inl (upd (S 5) i v))) = wX cI cZ cR a (st S 5 i v) := rfl
theorem stX10 (cI cZ cR : ClassId) (a : Nat → Nat) (S : St) (i : Nat) (v : Int32) : (wX cI cZ cR a S).set 10 (a 10, .inl (cI, 3, .inl (upd (S 6) i v))) = wX cI cZ cR a (st S 6 i v) := rfl
theorem ptX11_1 (cI cZ cR : ClassId) (a : Nat → Nat) (S : St) (v : Int32) : (wX cI cZ cR a S).set 11 (a 11, .inr (7, ([.ref (a 12), .int (S 20 6)] : List Value).set 1 (.int v))) = wX cI cZ cR a (st S 20 6 v) := rfl
theorem stX12 (cI cZ cR : ClassId) (a : Nat → Nat) (S : St) (i : Nat) (v : Int32) : (wX cI cZ cR a S).set 12 (a 12, .inl (cI, 1076, .inl (upd (S 7) i v))) = wX cI cZ cR a (st S 7 i v) := rfl
theorem ptX13_4 (cI cZ cR : ClassId) (a : Nat → Nat) (S : St) (v : Int32) : (wX cI cZ cR a S).set 13 (a 13, .inr (5, ([.ref (a 11), .ref (a 25), .ref (a 27), .ref (a 14), .int (S 20 7), .int (S 20 8), .int (S 20 9)] : List Value).set 4 (.int v))) = wX cI cZ cR a (st S 20 7 v) := rfl
theorem ptX13_5 (cI cZ cR : ClassId) (a : Nat → Nat) (S : St) (v : Int32) : (wX cI cZ cR a S).set 13 (a 13, .inr (5, ([.ref (a 11), .ref (a 25), .ref (a 27), .ref (a 14), .int (S 20 7), .int (S 20 8), .int (S 20 9)] : List Value).set 5 (.int v))) = wX cI cZ cR a (st S 20 8 v) := rfl
theorem ptX13_6 (cI cZ cR : ClassId) (a : Nat → Nat) (S : St) (v : Int32) : (wX cI cZ cR a S).set 13 (a 13, .inr (5, ([.ref (a 11), .ref (a 25), .ref (a 27), .ref (a 14), .int (S 20 7), .int (S 20 8), .int (S 20 9)] : List Value).set 6 (.int v))) = wX cI cZ cR a (st S 20 9 v) := rfl
theorem ptX15_4 (cI cZ cR : ClassId) (a : Nat → Nat) (S : St) (v : Int32) : (wX cI cZ cR a S).set 15 (a 15, .inr (2, ([.ref (a 1), .ref (a 16), .ref (a 17), .ref (a 18), .int (S 20 10), .int (S 20 11), .int (S 20 12), .int (S 20 13), .int (S 20 14), .int (S 20 15)] : List Value).set 4 (.int v))) = wX cI cZ cR a (st S 20 10 v) := rfl
theorem ptX15_5 (cI cZ cR : ClassId) (a : Nat → Nat) (S : St) (v : Int32) : (wX cI cZ cR a S).set 15 (a 15, .inr (2, ([.ref (a 1), .ref (a 16), .ref (a 17), .ref (a 18), .int (S 20 10), .int (S 20 11), .int (S 20 12), .int (S 20 13), .int (S 20 14), .int (S 20 15)] : List Value).set 5 (.int v))) = wX cI cZ cR a (st S 20 11 v) := rfl
theorem ptX15_6 (cI cZ cR : ClassId) (a : Nat → Nat) (S : St) (v : Int32) : (wX cI cZ cR a S).set 15 (a 15, .inr (2, ([.ref (a 1), .ref (a 16), .ref (a 17), .ref (a 18), .int (S 20 10), .int (S 20 11), .int (S 20 12), .int (S 20 13), .int (S 20 14), .int (S 20 15)] : List Value).set 6 (.int v))) = wX cI cZ cR a (st S 20 12 v) := rfl
theorem ptX15_7 (cI cZ cR : ClassId) (a : Nat → Nat) (S : St) (v : Int32) : (wX cI cZ cR a S).set 15 (a 15, .inr (2, ([.ref (a 1), .ref (a 16), .ref (a 17), .ref (a 18), .int (S 20 10), .int (S 20 11), .int (S 20 12), .int (S 20 13), .int (S 20 14), .int (S 20 15)] : List Value).set 7 (.int v))) = wX cI cZ cR a (st S 20 13 v) := rfl
theorem ptX15_8 (cI cZ cR : ClassId) (a : Nat → Nat) (S : St) (v : Int32) : (wX cI cZ cR a S).set 15 (a 15, .inr (2, ([.ref (a 1), .ref (a 16), .ref (a 17), .ref (a 18), .int (S 20 10), .int (S 20 11), .int (S 20 12), .int (S 20 13), .int (S 20 14), .int (S 20 15)] : List Value).set 8 (.int v))) = wX cI cZ cR a (st S 20 14 v) := rfl
theorem ptX15_9 (cI cZ cR : ClassId) (a : Nat → Nat) (S : St) (v : Int32) : (wX cI cZ cR a S).set 15 (a 15, .inr (2, ([.ref (a 1), .ref (a 16), .ref (a 17), .ref (a 18), .int (S 20 10), .int (S 20 11), .int (S 20 12), .int (S 20 13), .int (S 20 14), .int (S 20 15)] : List Value).set 9 (.int v))) = wX cI cZ cR a (st S 20 15 v) := rfl
theorem stX16 (cI cZ cR : ClassId) (a : Nat → Nat) (S : St) (i : Nat) (v : Int32) : (wX cI cZ cR a S).set 16 (a 16, .inl (cI, 40, .inl (upd (S 8) i v))) = wX cI cZ cR a (st S 8 i v) := rfl
theorem stX17 (cI cZ cR : ClassId) (a : Nat → Nat) (S : St) (i : Nat) (v : Int32) : (wX cI cZ cR a S).set 17 (a 17, .inl (cI, 3, .inl (upd (S 9) i v))) = wX cI cZ cR a (st S 9 i v) := rfl
theorem stX18 (cI cZ cR : ClassId) (a : Nat → Nat) (S : St) (i : Nat) (v : Int32) : (wX cI cZ cR a S).set 18 (a 18, .inl (cI, 40, .inl (upd (S 10) i v))) = wX cI cZ cR a (st S 10 i v) := rfl
theorem ptX19_3 (cI cZ cR : ClassId) (a : Nat → Nat) (S : St) (v : Int32) : (wX cI cZ cR a S).set 19 (a 19, .inr (0, ([.ref (a 15), .ref (a 13), .ref (a 20), .int (S 20 16)] : List Value).set 3 (.int v))) = wX cI cZ cR a (st S 20 16 v) := rfl
theorem stX20 (cI cZ cR : ClassId) (a : Nat → Nat) (S : St) (i : Nat) (v : Int32) : (wX cI cZ cR a S).set 20 (a 20, .inl (cI, 100, .inl (upd (S 11) i v))) = wX cI cZ cR a (st S 11 i v) := rfl
theorem ptX21_0 (cI cZ cR : ClassId) (a : Nat → Nat) (S : St) (v : Int32) : (wX cI cZ cR a S).set 21 (a 21, .inr (6, ([.int (S 20 17), .int (S 20 18), .ref (a 22)] : List Value).set 0 (.int v))) = wX cI cZ cR a (st S 20 17 v) := rfl
theorem ptX21_1 (cI cZ cR : ClassId) (a : Nat → Nat) (S : St) (v : Int32) : (wX cI cZ cR a S).set 21 (a 21, .inr (6, ([.int (S 20 17), .int (S 20 18), .ref (a 22)] : List Value).set 1 (.int v))) = wX cI cZ cR a (st S 20 18 v) := rfl
theorem stX22 (cI cZ cR : ClassId) (a : Nat → Nat) (S : St) (i : Nat) (v : Int32) : (wX cI cZ cR a S).set 22 (a 22, .inl (cI, 3, .inl (upd (S 12) i v))) = wX cI cZ cR a (st S 12 i v) := rfl
theorem ptX23_0 (cI cZ cR : ClassId) (a : Nat → Nat) (S : St) (v : Int32) : (wX cI cZ cR a S).set 23 (a 23, .inr (6, ([.int (S 20 19), .int (S 20 20), .ref (a 24)] : List Value).set 0 (.int v))) = wX cI cZ cR a (st S 20 19 v) := rfl
theorem ptX23_1 (cI cZ cR : ClassId) (a : Nat → Nat) (S : St) (v : Int32) : (wX cI cZ cR a S).set 23 (a 23, .inr (6, ([.int (S 20 19), .int (S 20 20), .ref (a 24)] : List Value).set 1 (.int v))) = wX cI cZ cR a (st S 20 20 v) := rfl
theorem stX24 (cI cZ cR : ClassId) (a : Nat → Nat) (S : St) (i : Nat) (v : Int32) : (wX cI cZ cR a S).set 24 (a 24, .inl (cI, 3, .inl (upd (S 13) i v))) = wX cI cZ cR a (st S 13 i v) := rfl
theorem ptX25_0 (cI cZ cR : ClassId) (a : Nat → Nat) (S : St) (v : Int32) : (wX cI cZ cR a S).set 25 (a 25, .inr (6, ([.int (S 20 21), .int (S 20 22), .ref (a 26)] : List Value).set 0 (.int v))) = wX cI cZ cR a (st S 20 21 v) := rfl
theorem ptX25_1 (cI cZ cR : ClassId) (a : Nat → Nat) (S : St) (v : Int32) : (wX cI cZ cR a S).set 25 (a 25, .inr (6, ([.int (S 20 21), .int (S 20 22), .ref (a 26)] : List Value).set 1 (.int v))) = wX cI cZ cR a (st S 20 22 v) := rfl
theorem stX26 (cI cZ cR : ClassId) (a : Nat → Nat) (S : St) (i : Nat) (v : Int32) : (wX cI cZ cR a S).set 26 (a 26, .inl (cI, 3, .inl (upd (S 14) i v))) = wX cI cZ cR a (st S 14 i v) := rfl
theorem ptX27_0 (cI cZ cR : ClassId) (a : Nat → Nat) (S : St) (v : Int32) : (wX cI cZ cR a S).set 27 (a 27, .inr (6, ([.int (S 20 23), .int (S 20 24), .ref (a 28)] : List Value).set 0 (.int v))) = wX cI cZ cR a (st S 20 23 v) := rfl
theorem ptX27_1 (cI cZ cR : ClassId) (a : Nat → Nat) (S : St) (v : Int32) : (wX cI cZ cR a S).set 27 (a 27, .inr (6, ([.int (S 20 23), .int (S 20 24), .ref (a 28)] : List Value).set 1 (.int v))) = wX cI cZ cR a (st S 20 24 v) := rfl
theorem stX28 (cI cZ cR : ClassId) (a : Nat → Nat) (S : St) (i : Nat) (v : Int32) : (wX cI cZ cR a S).set 28 (a 28, .inl (cI, 3, .inl (upd (S 15) i v))) = wX cI cZ cR a (st S 15 i v) := rfl
theorem ptX29_0 (cI cZ cR : ClassId) (a : Nat → Nat) (S : St) (v : Int32) : (wX cI cZ cR a S).set 29 (a 29, .inr (6, ([.int (S 20 25), .int (S 20 26), .ref (a 30)] : List Value).set 0 (.int v))) = wX cI cZ cR a (st S 20 25 v) := rfl
theorem ptX29_1 (cI cZ cR : ClassId) (a : Nat → Nat) (S : St) (v : Int32) : (wX cI cZ cR a S).set 29 (a 29, .inr (6, ([.int (S 20 25), .int (S 20 26), .ref (a 30)] : List Value).set 1 (.int v))) = wX cI cZ cR a (st S 20 26 v) := rfl
theorem stX30 (cI cZ cR : ClassId) (a : Nat → Nat) (S : St) (i : Nat) (v : Int32) : (wX cI cZ cR a S).set 30 (a 30, .inl (cI, 3, .inl (upd (S 16) i v))) = wX cI cZ cR a (st S 16 i v) := rfl
theorem ptX31_0 (cI cZ cR : ClassId) (a : Nat → Nat) (S : St) (v : Int32) : (wX cI cZ cR a S).set 31 (a 31, .inr (6, ([.int (S 20 27), .int (S 20 28), .ref (a 32)] : List Value).set 0 (.int v))) = wX cI cZ cR a (st S 20 27 v) := rfl
theorem ptX31_1 (cI cZ cR : ClassId) (a : Nat → Nat) (S : St) (v : Int32) : (wX cI cZ cR a S).set 31 (a 31, .inr (6, ([.int (S 20 27), .int (S 20 28), .ref (a 32)] : List Value).set 1 (.int v))) = wX cI cZ cR a (st S 20 28 v) := rfl
theorem stX32 (cI cZ cR : ClassId) (a : Nat → Nat) (S : St) (i : Nat) (v : Int32) : (wX cI cZ cR a S).set 32 (a 32, .inl (cI, 3, .inl (upd (S 17) i v))) = wX cI cZ cR a (st S 17 i v) := rfl
theorem ptX33_0 (cI cZ cR : ClassId) (a : Nat → Nat) (S : St) (v : Int32) : (wX cI cZ cR a S).set 33 (a 33, .inr (6, ([.int (S 20 29), .int (S 20 30), .ref (a 34)] : List Value).set 0 (.int v))) = wX cI cZ cR a (st S 20 29 v) := rfl
theorem ptX33_1 (cI cZ cR : ClassId) (a : Nat → Nat) (S : St) (v : Int32) : (wX cI cZ cR a S).set 33 (a 33, .inr (6, ([.int (S 20 29), .int (S 20 30), .ref (a 34)] : List Value).set 1 (.int v))) = wX cI cZ cR a (st S 20 30 v) := rfl
theorem stX34 (cI cZ cR : ClassId) (a : Nat → Nat) (S : St) (i : Nat) (v : Int32) : (wX cI cZ cR a S).set 34 (a 34, .inl (cI, 3, .inl (upd (S 18) i v))) = wX cI cZ cR a (st S 18 i v) := rfl
theorem ptX35_0 (cI cZ cR : ClassId) (a : Nat → Nat) (S : St) (v : Int32) : (wX cI cZ cR a S).set 35 (a 35, .inr (6, ([.int (S 20 31), .int (S 20 32), .ref (a 36)] : List Value).set 0 (.int v))) = wX cI cZ cR a (st S 20 31 v) := rfl
theorem ptX35_1 (cI cZ cR : ClassId) (a : Nat → Nat) (S : St) (v : Int32) : (wX cI cZ cR a S).set 35 (a 35, .inr (6, ([.int (S 20 31), .int (S 20 32), .ref (a 36)] : List Value).set 1 (.int v))) = wX cI cZ cR a (st S 20 32 v) := rfl
theorem stX36 (cI cZ cR : ClassId) (a : Nat → Nat) (S : St) (i : Nat) (v : Int32) : (wX cI cZ cR a S).set 36 (a 36, .inl (cI, 3, .inl (upd (S 19) i v))) = wX cI cZ cR a (st S 19 i v) := rfl
theorem atM0 (cI cZ : ClassId) (a : Nat → Nat) (S : St) : (wM cI cZ a S)[0]? = some (a 0, .inr (9, [.int (S 30 0), .ref (a 1), .int (S 30 2), .int (S 30 3), .ref (a 2), .ref (a 3), .ref (a 4), .ref (a 5), .ref (a 6), .ref (a 7), .ref (a 8), .ref (a 9), .int (S 30 12), .ref (a 10), .ref (a 11), .ref (a 12), .int (S 30 16), .int (S 30 17), .int (S 30 18), .int (S 30 19), .int (S 30 20), .ref (a 13), .ref (a 14), .int (S 30 23), .ref (a 15), .int (S 30 25), .ref (a 16), .int (S 30 27), .int (S 30 28)])) := rfl
theorem atM1 (cI cZ : ClassId) (a : Nat → Nat) (S : St) : (wM cI cZ a S)[1]? = some (a 1, .inl (cI, 96, .inl (S 1))) := rfl
theorem atM2 (cI cZ : ClassId) (a : Nat → Nat) (S : St) : (wM cI cZ a S)[2]? = some (a 2, .inl (cI, 5, .inl (S 4))) := rfl
theorem atM3 (cI cZ : ClassId) (a : Nat → Nat) (S : St) : (wM cI cZ a S)[3]? = some (a 3, .inl (cI, 5, .inl (S 5))) := rfl
theorem atM4 (cI cZ : ClassId) (a : Nat → Nat) (S : St) : (wM cI cZ a S)[4]? = some (a 4, .inl (cI, 485, .inl (S 6))) := rfl
theorem atM5 (cI cZ : ClassId) (a : Nat → Nat) (S : St) : (wM cI cZ a S)[5]? = some (a 5, .inl (cZ, 97, .inl (S 7))) := rfl
theorem atM6 (cI cZ : ClassId) (a : Nat → Nat) (S : St) : (wM cI cZ a S)[6]? = some (a 6, .inl (cZ, 97, .inl (S 8))) := rfl
theorem atM7 (cI cZ : ClassId) (a : Nat → Nat) (S : St) : (wM cI cZ a S)[7]? = some (a 7, .inl (cI, 5, .inl (S 9))) := rfl
theorem atM8 (cI cZ : ClassId) (a : Nat → Nat) (S : St) : (wM cI cZ a S)[8]? = some (a 8, .inl (cI, 6000, .inl (S 10))) := rfl
theorem atM9 (cI cZ : ClassId) (a : Nat → Nat) (S : St) : (wM cI cZ a S)[9]? = some (a 9, .inl (cI, 6000, .inl (S 11))) := rfl
theorem atM10 (cI cZ : ClassId) (a : Nat → Nat) (S : St) : (wM cI cZ a S)[10]? = some (a 10, .inl (cI, 5, .inl (S 13))) := rfl
theorem atM11 (cI cZ : ClassId) (a : Nat → Nat) (S : St) : (wM cI cZ a S)[11]? = some (a 11, .inl (cI, 5, .inl (S 14))) := rfl
theorem atM12 (cI cZ : ClassId) (a : Nat → Nat) (S : St) : (wM cI cZ a S)[12]? = some (a 12, .inl (cI, 20, .inl (S 15))) := rfl
theorem atM13 (cI cZ : ClassId) (a : Nat → Nat) (S : St) : (wM cI cZ a S)[13]? = some (a 13, .inl (cI, 3, .inl (S 21))) := rfl
theorem atM14 (cI cZ : ClassId) (a : Nat → Nat) (S : St) : (wM cI cZ a S)[14]? = some (a 14, .inl (cI, 40, .inl (S 22))) := rfl
theorem atM15 (cI cZ : ClassId) (a : Nat → Nat) (S : St) : (wM cI cZ a S)[15]? = some (a 15, .inl (cI, 40, .inl (S 24))) := rfl
theorem atM16 (cI cZ : ClassId) (a : Nat → Nat) (S : St) : (wM cI cZ a S)[16]? = some (a 16, .inl (cI, 100, .inl (S 26))) := rfl
theorem ptM0_0 (cI cZ : ClassId) (a : Nat → Nat) (S : St) (v : Int32) : (wM cI cZ a S).set 0 (a 0, .inr (9, ([.int (S 30 0), .ref (a 1), .int (S 30 2), .int (S 30 3), .ref (a 2), .ref (a 3), .ref (a 4), .ref (a 5), .ref (a 6), .ref (a 7), .ref (a 8), .ref (a 9), .int (S 30 12), .ref (a 10), .ref (a 11), .ref (a 12), .int (S 30 16), .int (S 30 17), .int (S 30 18), .int (S 30 19), .int (S 30 20), .ref (a 13), .ref (a 14), .int (S 30 23), .ref (a 15), .int (S 30 25), .ref (a 16), .int (S 30 27), .int (S 30 28)] : List Value).set 0 (.int v))) = wM cI cZ a (st S 30 0 v) := rfl
theorem ptM0_2 (cI cZ : ClassId) (a : Nat → Nat) (S : St) (v : Int32) : (wM cI cZ a S).set 0 (a 0, .inr (9, ([.int (S 30 0), .ref (a 1), .int (S 30 2), .int (S 30 3), .ref (a 2), .ref (a 3), .ref (a 4), .ref (a 5), .ref (a 6), .ref (a 7), .ref (a 8), .ref (a 9), .int (S 30 12), .ref (a 10), .ref (a 11), .ref (a 12), .int (S 30 16), .int (S 30 17), .int (S 30 18), .int (S 30 19), .int (S 30 20), .ref (a 13), .ref (a 14), .int (S 30 23), .ref (a 15), .int (S 30 25), .ref (a 16), .int (S 30 27), .int (S 30 28)] : List Value).set 2 (.int v))) = wM cI cZ a (st S 30 2 v) := rfl
theorem ptM0_3 (cI cZ : ClassId) (a : Nat → Nat) (S : St) (v : Int32) : (wM cI cZ a S).set 0 (a 0, .inr (9, ([.int (S 30 0), .ref (a 1), .int (S 30 2), .int (S 30 3), .ref (a 2), .ref (a 3), .ref (a 4), .ref (a 5), .ref (a 6), .ref (a 7), .ref (a 8), .ref (a 9), .int (S 30 12), .ref (a 10), .ref (a 11), .ref (a 12), .int (S 30 16), .int (S 30 17), .int (S 30 18), .int (S 30 19), .int (S 30 20), .ref (a 13), .ref (a 14), .int (S 30 23), .ref (a 15), .int (S 30 25), .ref (a 16), .int (S 30 27), .int (S 30 28)] : List Value).set 3 (.int v))) = wM cI cZ a (st S 30 3 v) := rfl
theorem ptM0_12 (cI cZ : ClassId) (a : Nat → Nat) (S : St) (v : Int32) : (wM cI cZ a S).set 0 (a 0, .inr (9, ([.int (S 30 0), .ref (a 1), .int (S 30 2), .int (S 30 3), .ref (a 2), .ref (a 3), .ref (a 4), .ref (a 5), .ref (a 6), .ref (a 7), .ref (a 8), .ref (a 9), .int (S 30 12), .ref (a 10), .ref (a 11), .ref (a 12), .int (S 30 16), .int (S 30 17), .int (S 30 18), .int (S 30 19), .int (S 30 20), .ref (a 13), .ref (a 14), .int (S 30 23), .ref (a 15), .int (S 30 25), .ref (a 16), .int (S 30 27), .int (S 30 28)] : List Value).set 12 (.int v))) = wM cI cZ a (st S 30 12 v) := rfl
theorem ptM0_16 (cI cZ : ClassId) (a : Nat → Nat) (S : St) (v : Int32) : (wM cI cZ a S).set 0 (a 0, .inr (9, ([.int (S 30 0), .ref (a 1), .int (S 30 2), .int (S 30 3), .ref (a 2), .ref (a 3), .ref (a 4), .ref (a 5), .ref (a 6), .ref (a 7), .ref (a 8), .ref (a 9), .int (S 30 12), .ref (a 10), .ref (a 11), .ref (a 12), .int (S 30 16), .int (S 30 17), .int (S 30 18), .int (S 30 19), .int (S 30 20), .ref (a 13), .ref (a 14), .int (S 30 23), .ref (a 15), .int (S 30 25), .ref (a 16), .int (S 30 27), .int (S 30 28)] : List Value).set 16 (.int v))) = wM cI cZ a (st S 30 16 v) := rfl
theorem ptM0_17 (cI cZ : ClassId) (a : Nat → Nat) (S : St) (v : Int32) : (wM cI cZ a S).set 0 (a 0, .inr (9, ([.int (S 30 0), .ref (a 1), .int (S 30 2), .int (S 30 3), .ref (a 2), .ref (a 3), .ref (a 4), .ref (a 5), .ref (a 6), .ref (a 7), .ref (a 8), .ref (a 9), .int (S 30 12), .ref (a 10), .ref (a 11), .ref (a 12), .int (S 30 16), .int (S 30 17), .int (S 30 18), .int (S 30 19), .int (S 30 20), .ref (a 13), .ref (a 14), .int (S 30 23), .ref (a 15), .int (S 30 25), .ref (a 16), .int (S 30 27), .int (S 30 28)] : List Value).set 17 (.int v))) = wM cI cZ a (st S 30 17 v) := rfl
theorem ptM0_18 (cI cZ : ClassId) (a : Nat → Nat) (S : St) (v : Int32) : (wM cI cZ a S).set 0 (a 0, .inr (9, ([.int (S 30 0), .ref (a 1), .int (S 30 2), .int (S 30 3), .ref (a 2), .ref (a 3), .ref (a 4), .ref (a 5), .ref (a 6), .ref (a 7), .ref (a 8), .ref (a 9), .int (S 30 12), .ref (a 10), .ref (a 11), .ref (a 12), .int (S 30 16), .int (S 30 17), .int (S 30 18), .int (S 30 19), .int (S 30 20), .ref (a 13), .ref (a 14), .int (S 30 23), .ref (a 15), .int (S 30 25), .ref (a 16), .int (S 30 27), .int (S 30 28)] : List Value).set 18 (.int v))) = wM cI cZ a (st S 30 18 v) := rfl
theorem ptM0_19 (cI cZ : ClassId) (a : Nat → Nat) (S : St) (v : Int32) : (wM cI cZ a S).set 0 (a 0, .inr (9, ([.int (S 30 0), .ref (a 1), .int (S 30 2), .int (S 30 3), .ref (a 2), .ref (a 3), .ref (a 4), .ref (a 5), .ref (a 6), .ref (a 7), .ref (a 8), .ref (a 9), .int (S 30 12), .ref (a 10), .ref (a 11), .ref (a 12), .int (S 30 16), .int (S 30 17), .int (S 30 18), .int (S 30 19), .int (S 30 20), .ref (a 13), .ref (a 14), .int (S 30 23), .ref (a 15), .int (S 30 25), .ref (a 16), .int (S 30 27), .int (S 30 28)] : List Value).set 19 (.int v))) = wM cI cZ a (st S 30 19 v) := rfl
theorem ptM0_20 (cI cZ : ClassId) (a : Nat → Nat) (S : St) (v : Int32) : (wM cI cZ a S).set 0 (a 0, .inr (9, ([.int (S 30 0), .ref (a 1), .int (S 30 2), .int (S 30 3), .ref (a 2), .ref (a 3), .ref (a 4), .ref (a 5), .ref (a 6), .ref (a 7), .ref (a 8), .ref (a 9), .int (S 30 12), .ref (a 10), .ref (a 11), .ref (a 12), .int (S 30 16), .int (S 30 17), .int (S 30 18), .int (S 30 19), .int (S 30 20), .ref (a 13), .ref (a 14), .int (S 30 23), .ref (a 15), .int (S 30 25), .ref (a 16), .int (S 30 27), .int (S 30 28)] : List Value).set 20 (.int v))) = wM cI cZ a (st S 30 20 v) := rfl
theorem ptM0_23 (cI cZ : ClassId) (a : Nat → Nat) (S : St) (v : Int32) : (wM cI cZ a S).set 0 (a 0, .inr (9, ([.int (S 30 0), .ref (a 1), .int (S 30 2), .int (S 30 3), .ref (a 2), .ref (a 3), .ref (a 4), .ref (a 5), .ref (a 6), .ref (a 7), .ref (a 8), .ref (a 9), .int (S 30 12), .ref (a 10), .ref (a 11), .ref (a 12), .int (S 30 16), .int (S 30 17), .int (S 30 18), .int (S 30 19), .int (S 30 20), .ref (a 13), .ref (a 14), .int (S 30 23), .ref (a 15), .int (S 30 25), .ref (a 16), .int (S 30 27), .int (S 30 28)] : List Value).set 23 (.int v))) = wM cI cZ a (st S 30 23 v) := rfl
theorem ptM0_25 (cI cZ : ClassId) (a : Nat → Nat) (S : St) (v : Int32) : (wM cI cZ a S).set 0 (a 0, .inr (9, ([.int (S 30 0), .ref (a 1), .int (S 30 2), .int (S 30 3), .ref (a 2), .ref (a 3), .ref (a 4), .ref (a 5), .ref (a 6), .ref (a 7), .ref (a 8), .ref (a 9), .int (S 30 12), .ref (a 10), .ref (a 11), .ref (a 12), .int (S 30 16), .int (S 30 17), .int (S 30 18), .int (S 30 19), .int (S 30 20), .ref (a 13), .ref (a 14), .int (S 30 23), .ref (a 15), .int (S 30 25), .ref (a 16), .int (S 30 27), .int (S 30 28)] : List Value).set 25 (.int v))) = wM cI cZ a (st S 30 25 v) := rfl
theorem ptM0_27 (cI cZ : ClassId) (a : Nat → Nat) (S : St) (v : Int32) : (wM cI cZ a S).set 0 (a 0, .inr (9, ([.int (S 30 0), .ref (a 1), .int (S 30 2), .int (S 30 3), .ref (a 2), .ref (a 3), .ref (a 4), .ref (a 5), .ref (a 6), .ref (a 7), .ref (a 8), .ref (a 9), .int (S 30 12), .ref (a 10), .ref (a 11), .ref (a 12), .int (S 30 16), .int (S 30 17), .int (S 30 18), .int (S 30 19), .int (S 30 20), .ref (a 13), .ref (a 14), .int (S 30 23), .ref (a 15), .int (S 30 25), .ref (a 16), .int (S 30 27), .int (S 30 28)] : List Value).set 27 (.int v))) = wM cI cZ a (st S 30 27 v) := rfl
theorem ptM0_28 (cI cZ : ClassId) (a : Nat → Nat) (S : St) (v : Int32) : (wM cI cZ a S).set 0 (a 0, .inr (9, ([.int (S 30 0), .ref (a 1), .int (S 30 2), .int (S 30 3), .ref (a 2), .ref (a 3), .ref (a 4), .ref (a 5), .ref (a 6), .ref (a 7), .ref (a 8), .ref (a 9), .int (S 30 12), .ref (a 10), .ref (a 11), .ref (a 12), .int (S 30 16), .int (S 30 17), .int (S 30 18), .int (S 30 19), .int (S 30 20), .ref (a 13), .ref (a 14), .int (S 30 23), .ref (a 15), .int (S 30 25), .ref (a 16), .int (S 30 27), .int (S 30 28)] : List Value).set 28 (.int v))) = wM cI cZ a (st S 30 28 v) := rfl
theorem stM1 (cI cZ : ClassId) (a : Nat → Nat) (S : St) (i : Nat) (v : Int32) : (wM cI cZ a S).set 1 (a 1, .inl (cI, 96, .inl (upd (S 1) i v))) = wM cI cZ a (st S 1 i v) := rfl
theorem stM2 (cI cZ : ClassId) (a : Nat → Nat) (S : St) (i : Nat) (v : Int32) : (wM cI cZ a S).set 2 (a 2, .inl (cI, 5, .inl (upd (S 4) i v))) = wM cI cZ a (st S 4 i v) := rfl
theorem stM3 (cI cZ : ClassId) (a : Nat → Nat) (S : St) (i : Nat) (v : Int32) : (wM cI cZ a S).set 3 (a 3, .inl (cI, 5, .inl (upd (S 5) i v))) = wM cI cZ a (st S 5 i v) := rfl
theorem stM4 (cI cZ : ClassId) (a : Nat → Nat) (S : St) (i : Nat) (v : Int32) : (wM cI cZ a S).set 4 (a 4, .inl (cI, 485, .inl (upd (S 6) i v))) = wM cI cZ a (st S 6 i v) := rfl
theorem stM5 (cI cZ : ClassId) (a : Nat → Nat) (S : St) (i : Nat) (v : Int32) : (wM cI cZ a S).set 5 (a 5, .inl (cZ, 97, .inl (upd (S 7) i v))) = wM cI cZ a (st S 7 i v) := rfl
theorem stM6 (cI cZ : ClassId) (a : Nat → Nat) (S : St) (i : Nat) (v : Int32) : (wM cI cZ a S).set 6 (a 6, .inl (cZ, 97, .inl (upd (S 8) i v))) = wM cI cZ a (st S 8 i v) := rfl
theorem stM7 (cI cZ : ClassId) (a : Nat → Nat) (S : St) (i : Nat) (v : Int32) : (wM cI cZ a S).set 7 (a 7, .inl (cI, 5, .inl (upd (S 9) i v))) = wM cI cZ a (st S 9 i v) := rfl
theorem stM8 (cI cZ : ClassId) (a : Nat → Nat) (S : St) (i : Nat) (v : Int32) : (wM cI cZ a S).set 8 (a 8, .inl (cI, 6000, .inl (upd (S 10) i v))) = wM cI cZ a (st S 10 i v) := rfl
theorem stM9 (cI cZ : ClassId) (a : Nat → Nat) (S : St) (i : Nat) (v : Int32) : (wM cI cZ a S).set 9 (a 9, .inl (cI, 6000, .inl (upd (S 11) i v))) = wM cI cZ a (st S 11 i v) := rfl
theorem stM10 (cI cZ : ClassId) (a : Nat → Nat) (S : St) (i : Nat) (v : Int32) : (wM cI cZ a S).set 10 (a 10, .inl (cI, 5, .inl (upd (S 13) i v))) = wM cI cZ a (st S 13 i v) := rfl
theorem stM11 (cI cZ : ClassId) (a : Nat → Nat) (S : St) (i : Nat) (v : Int32) : (wM cI cZ a S).set 11 (a 11, .inl (cI, 5, .inl (upd (S 14) i v))) = wM cI cZ a (st S 14 i v) := rfl
theorem stM12 (cI cZ : ClassId) (a : Nat → Nat) (S : St) (i : Nat) (v : Int32) : (wM cI cZ a S).set 12 (a 12, .inl (cI, 20, .inl (upd (S 15) i v))) = wM cI cZ a (st S 15 i v) := rfl
theorem stM13 (cI cZ : ClassId) (a : Nat → Nat) (S : St) (i : Nat) (v : Int32) : (wM cI cZ a S).set 13 (a 13, .inl (cI, 3, .inl (upd (S 21) i v))) = wM cI cZ a (st S 21 i v) := rfl
theorem stM14 (cI cZ : ClassId) (a : Nat → Nat) (S : St) (i : Nat) (v : Int32) : (wM cI cZ a S).set 14 (a 14, .inl (cI, 40, .inl (upd (S 22) i v))) = wM cI cZ a (st S 22 i v) := rfl
theorem stM15 (cI cZ : ClassId) (a : Nat → Nat) (S : St) (i : Nat) (v : Int32) : (wM cI cZ a S).set 15 (a 15, .inl (cI, 40, .inl (upd (S 24) i v))) = wM cI cZ a (st S 24 i v) := rfl
theorem stM16 (cI cZ : ClassId) (a : Nat → Nat) (S : St) (i : Nat) (v : Int32) : (wM cI cZ a S).set 16 (a 16, .inl (cI, 100, .inl (upd (S 26) i v))) = wM cI cZ a (st S 26 i v) := rfl
theorem row_at (cI cZ cR : ClassId) (a : Nat → Nat) (S : St) {i : Nat} (hi : i < 8) : (wX cI cZ cR a S)[21 + 2 * i]? = some (a (21 + 2 * i), .inr (6, [.int (S 20 (17 + 2 * i)), .int (S 20 (18 + 2 * i)), .ref (a (22 + 2 * i))])) := by
  match i, hi with
  | 0, _ => rfl
  | 1, _ => rfl
  | 2, _ => rfl
  | 3, _ => rfl
  | 4, _ => rfl
  | 5, _ => rfl
  | 6, _ => rfl
  | 7, _ => rfl
theorem row_sv (cI cZ cR : ClassId) (a : Nat → Nat) (S : St) {i : Nat} (hi : i < 8) : (wX cI cZ cR a S)[22 + 2 * i]? = some (a (22 + 2 * i), .inl (cI, 3, .inl (S (12 + i)))) := by
  match i, hi with
  | 0, _ => rfl
  | 1, _ => rfl
  | 2, _ => rfl
  | 3, _ => rfl
  | 4, _ => rfl
  | 5, _ => rfl
  | 6, _ => rfl
  | 7, _ => rfl
theorem row_p0 (cI cZ cR : ClassId) (a : Nat → Nat) (S : St) {i : Nat} (hi : i < 8) (v : Int32) : (wX cI cZ cR a S).set (21 + 2 * i) (a (21 + 2 * i), .inr (6, ([.int (S 20 (17 + 2 * i)), .int (S 20 (18 + 2 * i)), .ref (a (22 + 2 * i))] : List Value).set 0 (.int v))) = wX cI cZ cR a (st S 20 (17 + 2 * i) v) := by
  match i, hi with
  | 0, _ => rfl
  | 1, _ => rfl
  | 2, _ => rfl
  | 3, _ => rfl
  | 4, _ => rfl
  | 5, _ => rfl
  | 6, _ => rfl
  | 7, _ => rfl
theorem row_p1 (cI cZ cR : ClassId) (a : Nat → Nat) (S : St) {i : Nat} (hi : i < 8) (v : Int32) : (wX cI cZ cR a S).set (21 + 2 * i) (a (21 + 2 * i), .inr (6, ([.int (S 20 (17 + 2 * i)), .int (S 20 (18 + 2 * i)), .ref (a (22 + 2 * i))] : List Value).set 1 (.int v))) = wX cI cZ cR a (st S 20 (18 + 2 * i) v) := by
  match i, hi with
  | 0, _ => rfl
  | 1, _ => rfl
  | 2, _ => rfl
  | 3, _ => rfl
  | 4, _ => rfl
  | 5, _ => rfl
  | 6, _ => rfl
  | 7, _ => rfl
theorem row_st (cI cZ cR : ClassId) (a : Nat → Nat) (S : St) {i : Nat} (hi : i < 8) (j : Nat) (v : Int32) : (wX cI cZ cR a S).set (22 + 2 * i) (a (22 + 2 * i), .inl (cI, 3, .inl (upd (S (12 + i)) j v))) = wX cI cZ cR a (st S (12 + i) j v) := by
  match i, hi with
  | 0, _ => rfl
  | 1, _ => rfl
  | 2, _ => rfl
  | 3, _ => rfl
  | 4, _ => rfl
  | 5, _ => rfl
  | 6, _ => rfl
  | 7, _ => rfl
