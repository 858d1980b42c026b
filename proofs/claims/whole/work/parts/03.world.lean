def tyz (x : ClassId × ClassId × ClassId) : List (ClassId × FieldType) := [(x.1, .int), (x.2.1, .long), (x.2.2, .array .int)]
def wC (a : Nat → Nat) (x : ClassId × ClassId × ClassId) (σ : ZS) : va_W := [(a 0, .inr (6, [.ref (a 1), .ref (a 2), .ref (a 3), .ref (a 4), .ref (a 5), .ref (a 6)])), (a 1, .inr (1, [.int (σ.1 0), .int (σ.1 1), .int (σ.1 2), .int (σ.1 3), .ref (a 7)])), (a 2, .inr (2, [.int (σ.1 4), .ref (a 8)])), (a 3, .inr (3, [.int (σ.1 5), .ref (a 9), .ref (a 10), .ref (a 11)])), (a 4, .inr (4, [.ref (a 1), .ref (a 2), .ref (a 3), .ref (a 12), .ref (a 13), .int (σ.1 6)])), (a 5, .inr (0, [.ref (a 1), .ref (a 2), .ref (a 3), .ref (a 4), .ref (a 14)])), (a 6, .inl (x.1, 16, .inl (σ.2.1 6))), (a 7, .inl (x.2.2, 10, .inr (.inr (.inr (.inr (fun j => if j < 10 then some (a (23 + j)) else none)))))), (a 8, .inl (x.1, 128, .inl (σ.2.1 8))), (a 9, .inl (x.1, 16, .inl (σ.2.1 9))), (a 10, .inl (x.1, 16, .inl (σ.2.1 10))), (a 11, .inl (x.1, 128, .inl (σ.2.1 11))), (a 12, .inr (5, [.ref (a 15), .ref (a 16), .ref (a 17), .ref (a 18)])), (a 13, .inr (5, [.ref (a 19), .ref (a 20), .ref (a 21), .ref (a 22)])), (a 14, .inl (x.1, 10, .inl (σ.2.1 14))), (a 15, .inl (x.2.1, 10, .inr (.inl (σ.2.2 15)))), (a 16, .inl (x.1, 10, .inl (σ.2.1 16))), (a 17, .inl (x.1, 10, .inl (σ.2.1 17))), (a 18, .inl (x.1, 10, .inl (σ.2.1 18))), (a 19, .inl (x.2.1, 10, .inr (.inl (σ.2.2 19)))), (a 20, .inl (x.1, 10, .inl (σ.2.1 20))), (a 21, .inl (x.1, 10, .inl (σ.2.1 21))), (a 22, .inl (x.1, 10, .inl (σ.2.1 22))), (a 23, .inl (x.1, 10, .inl (σ.2.1 23))), (a 24, .inl (x.1, 10, .inl (σ.2.1 24))), (a 25, .inl (x.1, 10, .inl (σ.2.1 25))), (a 26, .inl (x.1, 10, .inl (σ.2.1 26))), (a 27, .inl (x.1, 10, .inl (σ.2.1 27))), (a 28, .inl (x.1, 10, .inl (σ.2.1 28))), (a 29, .inl (x.1, 10, .inl (σ.2.1 29))), (a 30, .inl (x.1, 10, .inl (σ.2.1 30))), (a 31, .inl (x.1, 10, .inl (σ.2.1 31))), (a 32, .inl (x.1, 10, .inl (σ.2.1 32)))]
theorem gC_0 {a : Nat → Nat} {x : ClassId × ClassId × ClassId} {σ : ZS} : (wC a x σ)[0]? = some (a 0, .inr (6, [.ref (a 1), .ref (a 2), .ref (a 3), .ref (a 4), .ref (a 5), .ref (a 6)])) := rfl
theorem gC_1 {a : Nat → Nat} {x : ClassId × ClassId × ClassId} {σ : ZS} : (wC a x σ)[1]? = some (a 1, .inr (1, [.int (σ.1 0), .int (σ.1 1), .int (σ.1 2), .int (σ.1 3), .ref (a 7)])) := rfl
theorem pC_1_0 {a : Nat → Nat} {x : ClassId × ClassId × ClassId} {σ : ZS} {v : Int32} : (wC a x σ).set 1 (a 1, .inr (1, [.int (σ.1 0), .int (σ.1 1), .int (σ.1 2), .int (σ.1 3), .ref (a 7)].set 0 (.int v))) = wC a x (setI σ 0 v) := rfl
theorem pC_1_1 {a : Nat → Nat} {x : ClassId × ClassId × ClassId} {σ : ZS} {v : Int32} : (wC a x σ).set 1 (a 1, .inr (1, [.int (σ.1 0), .int (σ.1 1), .int (σ.1 2), .int (σ.1 3), .ref (a 7)].set 1 (.int v))) = wC a x (setI σ 1 v) := rfl
theorem pC_1_2 {a : Nat → Nat} {x : ClassId × ClassId × ClassId} {σ : ZS} {v : Int32} : (wC a x σ).set 1 (a 1, .inr (1, [.int (σ.1 0), .int (σ.1 1), .int (σ.1 2), .int (σ.1 3), .ref (a 7)].set 2 (.int v))) = wC a x (setI σ 2 v) := rfl
theorem pC_1_3 {a : Nat → Nat} {x : ClassId × ClassId × ClassId} {σ : ZS} {v : Int32} : (wC a x σ).set 1 (a 1, .inr (1, [.int (σ.1 0), .int (σ.1 1), .int (σ.1 2), .int (σ.1 3), .ref (a 7)].set 3 (.int v))) = wC a x (setI σ 3 v) := rfl
theorem gC_2 {a : Nat → Nat} {x : ClassId × ClassId × ClassId} {σ : ZS} : (wC a x σ)[2]? = some (a 2, .inr (2, [.int (σ.1 4), .ref (a 8)])) := rfl
theorem pC_2_0 {a : Nat → Nat} {x : ClassId × ClassId × ClassId} {σ : ZS} {v : Int32} : (wC a x σ).set 2 (a 2, .inr (2, [.int (σ.1 4), .ref (a 8)].set 0 (.int v))) = wC a x (setI σ 4 v) := rfl
theorem gC_3 {a : Nat → Nat} {x : ClassId × ClassId × ClassId} {σ : ZS} : (wC a x σ)[3]? = some (a 3, .inr (3, [.int (σ.1 5), .ref (a 9), .ref (a 10), .ref (a 11)])) := rfl
theorem pC_3_0 {a : Nat → Nat} {x : ClassId × ClassId × ClassId} {σ : ZS} {v : Int32} : (wC a x σ).set 3 (a 3, .inr (3, [.int (σ.1 5), .ref (a 9), .ref (a 10), .ref (a 11)].set 0 (.int v))) = wC a x (setI σ 5 v) := rfl
theorem gC_4 {a : Nat → Nat} {x : ClassId × ClassId × ClassId} {σ : ZS} : (wC a x σ)[4]? = some (a 4, .inr (4, [.ref (a 1), .ref (a 2), .ref (a 3), .ref (a 12), .ref (a 13), .int (σ.1 6)])) := rfl
theorem pC_4_5 {a : Nat → Nat} {x : ClassId × ClassId × ClassId} {σ : ZS} {v : Int32} : (wC a x σ).set 4 (a 4, .inr (4, [.ref (a 1), .ref (a 2), .ref (a 3), .ref (a 12), .ref (a 13), .int (σ.1 6)].set 5 (.int v))) = wC a x (setI σ 6 v) := rfl
theorem gC_5 {a : Nat → Nat} {x : ClassId × ClassId × ClassId} {σ : ZS} : (wC a x σ)[5]? = some (a 5, .inr (0, [.ref (a 1), .ref (a 2), .ref (a 3), .ref (a 4), .ref (a 14)])) := rfl
theorem gC_6 {a : Nat → Nat} {x : ClassId × ClassId × ClassId} {σ : ZS} : (wC a x σ)[6]? = some (a 6, .inl (x.1, 16, .inl (σ.2.1 6))) := rfl
theorem rC_6 {a : Nat → Nat} {x : ClassId × ClassId × ClassId} {σ : ZS} {f : Nat → Int32} : (wC a x σ).set 6 (a 6, .inl (x.1, 16, .inl f)) = wC a x (setR σ 6 f) := rfl
theorem uC_6 {a : Nat → Nat} {x : ClassId × ClassId × ClassId} {σ : ZS} {i : Nat} {v : Int32} : (wC a x σ).set 6 (a 6, .inl (x.1, 16, .inl (upd (σ.2.1 6) i v))) = wC a x (setA σ 6 i v) := rfl
theorem gC_7 {a : Nat → Nat} {x : ClassId × ClassId × ClassId} {σ : ZS} : (wC a x σ)[7]? = some (a 7, .inl (x.2.2, 10, .inr (.inr (.inr (.inr (fun j => if j < 10 then some (a (23 + j)) else none)))))) := rfl
theorem gC_8 {a : Nat → Nat} {x : ClassId × ClassId × ClassId} {σ : ZS} : (wC a x σ)[8]? = some (a 8, .inl (x.1, 128, .inl (σ.2.1 8))) := rfl
theorem rC_8 {a : Nat → Nat} {x : ClassId × ClassId × ClassId} {σ : ZS} {f : Nat → Int32} : (wC a x σ).set 8 (a 8, .inl (x.1, 128, .inl f)) = wC a x (setR σ 8 f) := rfl
theorem uC_8 {a : Nat → Nat} {x : ClassId × ClassId × ClassId} {σ : ZS} {i : Nat} {v : Int32} : (wC a x σ).set 8 (a 8, .inl (x.1, 128, .inl (upd (σ.2.1 8) i v))) = wC a x (setA σ 8 i v) := rfl
theorem gC_9 {a : Nat → Nat} {x : ClassId × ClassId × ClassId} {σ : ZS} : (wC a x σ)[9]? = some (a 9, .inl (x.1, 16, .inl (σ.2.1 9))) := rfl
theorem rC_9 {a : Nat → Nat} {x : ClassId × ClassId × ClassId} {σ : ZS} {f : Nat → Int32} : (wC a x σ).set 9 (a 9, .inl (x.1, 16, .inl f)) = wC a x (setR σ 9 f) := rfl
theorem uC_9 {a : Nat → Nat} {x : ClassId × ClassId × ClassId} {σ : ZS} {i : Nat} {v : Int32} : (wC a x σ).set 9 (a 9, .inl (x.1, 16, .inl (upd (σ.2.1 9) i v))) = wC a x (setA σ 9 i v) := rfl
theorem gC_10 {a : Nat → Nat} {x : ClassId × ClassId × ClassId} {σ : ZS} : (wC a x σ)[10]? = some (a 10, .inl (x.1, 16, .inl (σ.2.1 10))) := rfl
theorem rC_10 {a : Nat → Nat} {x : ClassId × ClassId × ClassId} {σ : ZS} {f : Nat → Int32} : (wC a x σ).set 10 (a 10, .inl (x.1, 16, .inl f)) = wC a x (setR σ 10 f) := rfl
theorem uC_10 {a : Nat → Nat} {x : ClassId × ClassId × ClassId} {σ : ZS} {i : Nat} {v : Int32} : (wC a x σ).set 10 (a 10, .inl (x.1, 16, .inl (upd (σ.2.1 10) i v))) = wC a x (setA σ 10 i v) := rfl
theorem gC_11 {a : Nat → Nat} {x : ClassId × ClassId × ClassId} {σ : ZS} : (wC a x σ)[11]? = some (a 11, .inl (x.1, 128, .inl (σ.2.1 11))) := rfl
theorem rC_11 {a : Nat → Nat} {x : ClassId × ClassId × ClassId} {σ : ZS} {f : Nat → Int32} : (wC a x σ).set 11 (a 11, .inl (x.1, 128, .inl f)) = wC a x (setR σ 11 f) := rfl
theorem uC_11 {a : Nat → Nat} {x : ClassId × ClassId × ClassId} {σ : ZS} {i : Nat} {v : Int32} : (wC a x σ).set 11 (a 11, .inl (x.1, 128, .inl (upd (σ.2.1 11) i v))) = wC a x (setA σ 11 i v) := rfl
theorem gC_12 {a : Nat → Nat} {x : ClassId × ClassId × ClassId} {σ : ZS} : (wC a x σ)[12]? = some (a 12, .inr (5, [.ref (a 15), .ref (a 16), .ref (a 17), .ref (a 18)])) := rfl
theorem gC_13 {a : Nat → Nat} {x : ClassId × ClassId × ClassId} {σ : ZS} : (wC a x σ)[13]? = some (a 13, .inr (5, [.ref (a 19), .ref (a 20), .ref (a 21), .ref (a 22)])) := rfl
theorem gC_14 {a : Nat → Nat} {x : ClassId × ClassId × ClassId} {σ : ZS} : (wC a x σ)[14]? = some (a 14, .inl (x.1, 10, .inl (σ.2.1 14))) := rfl
theorem rC_14 {a : Nat → Nat} {x : ClassId × ClassId × ClassId} {σ : ZS} {f : Nat → Int32} : (wC a x σ).set 14 (a 14, .inl (x.1, 10, .inl f)) = wC a x (setR σ 14 f) := rfl
theorem uC_14 {a : Nat → Nat} {x : ClassId × ClassId × ClassId} {σ : ZS} {i : Nat} {v : Int32} : (wC a x σ).set 14 (a 14, .inl (x.1, 10, .inl (upd (σ.2.1 14) i v))) = wC a x (setA σ 14 i v) := rfl
theorem gC_15 {a : Nat → Nat} {x : ClassId × ClassId × ClassId} {σ : ZS} : (wC a x σ)[15]? = some (a 15, .inl (x.2.1, 10, .inr (.inl (σ.2.2 15)))) := rfl
theorem rC_15 {a : Nat → Nat} {x : ClassId × ClassId × ClassId} {σ : ZS} {f : Nat → Int64} : (wC a x σ).set 15 (a 15, .inl (x.2.1, 10, .inr (.inl f))) = wC a x (setJ σ 15 f) := rfl
theorem uC_15 {a : Nat → Nat} {x : ClassId × ClassId × ClassId} {σ : ZS} {i : Nat} {v : Int64} : (wC a x σ).set 15 (a 15, .inl (x.2.1, 10, .inr (.inl (vp_updL (σ.2.2 15) i v)))) = wC a x (setL σ 15 i v) := rfl
theorem gC_16 {a : Nat → Nat} {x : ClassId × ClassId × ClassId} {σ : ZS} : (wC a x σ)[16]? = some (a 16, .inl (x.1, 10, .inl (σ.2.1 16))) := rfl
theorem rC_16 {a : Nat → Nat} {x : ClassId × ClassId × ClassId} {σ : ZS} {f : Nat → Int32} : (wC a x σ).set 16 (a 16, .inl (x.1, 10, .inl f)) = wC a x (setR σ 16 f) := rfl
theorem uC_16 {a : Nat → Nat} {x : ClassId × ClassId × ClassId} {σ : ZS} {i : Nat} {v : Int32} : (wC a x σ).set 16 (a 16, .inl (x.1, 10, .inl (upd (σ.2.1 16) i v))) = wC a x (setA σ 16 i v) := rfl
theorem gC_17 {a : Nat → Nat} {x : ClassId × ClassId × ClassId} {σ : ZS} : (wC a x σ)[17]? = some (a 17, .inl (x.1, 10, .inl (σ.2.1 17))) := rfl
theorem rC_17 {a : Nat → Nat} {x : ClassId × ClassId × ClassId} {σ : ZS} {f : Nat → Int32} : (wC a x σ).set 17 (a 17, .inl (x.1, 10, .inl f)) = wC a x (setR σ 17 f) := rfl
theorem uC_17 {a : Nat → Nat} {x : ClassId × ClassId × ClassId} {σ : ZS} {i : Nat} {v : Int32} : (wC a x σ).set 17 (a 17, .inl (x.1, 10, .inl (upd (σ.2.1 17) i v))) = wC a x (setA σ 17 i v) := rfl
theorem gC_18 {a : Nat → Nat} {x : ClassId × ClassId × ClassId} {σ : ZS} : (wC a x σ)[18]? = some (a 18, .inl (x.1, 10, .inl (σ.2.1 18))) := rfl
theorem rC_18 {a : Nat → Nat} {x : ClassId × ClassId × ClassId} {σ : ZS} {f : Nat → Int32} : (wC a x σ).set 18 (a 18, .inl (x.1, 10, .inl f)) = wC a x (setR σ 18 f) := rfl
theorem uC_18 {a : Nat → Nat} {x : ClassId × ClassId × ClassId} {σ : ZS} {i : Nat} {v : Int32} : (wC a x σ).set 18 (a 18, .inl (x.1, 10, .inl (upd (σ.2.1 18) i v))) = wC a x (setA σ 18 i v) := rfl
theorem gC_19 {a : Nat → Nat} {x : ClassId × ClassId × ClassId} {σ : ZS} : (wC a x σ)[19]? = some (a 19, .inl (x.2.1, 10, .inr (.inl (σ.2.2 19)))) := rfl
theorem rC_19 {a : Nat → Nat} {x : ClassId × ClassId × ClassId} {σ : ZS} {f : Nat → Int64} : (wC a x σ).set 19 (a 19, .inl (x.2.1, 10, .inr (.inl f))) = wC a x (setJ σ 19 f) := rfl
theorem uC_19 {a : Nat → Nat} {x : ClassId × ClassId × ClassId} {σ : ZS} {i : Nat} {v : Int64} : (wC a x σ).set 19 (a 19, .inl (x.2.1, 10, .inr (.inl (vp_updL (σ.2.2 19) i v)))) = wC a x (setL σ 19 i v) := rfl
theorem gC_20 {a : Nat → Nat} {x : ClassId × ClassId × ClassId} {σ : ZS} : (wC a x σ)[20]? = some (a 20, .inl (x.1, 10, .inl (σ.2.1 20))) := rfl
theorem rC_20 {a : Nat → Nat} {x : ClassId × ClassId × ClassId} {σ : ZS} {f : Nat → Int32} : (wC a x σ).set 20 (a 20, .inl (x.1, 10, .inl f)) = wC a x (setR σ 20 f) := rfl
theorem uC_20 {a : Nat → Nat} {x : ClassId × ClassId × ClassId} {σ : ZS} {i : Nat} {v : Int32} : (wC a x σ).set 20 (a 20, .inl (x.1, 10, .inl (upd (σ.2.1 20) i v))) = wC a x (setA σ 20 i v) := rfl
theorem gC_21 {a : Nat → Nat} {x : ClassId × ClassId × ClassId} {σ : ZS} : (wC a x σ)[21]? = some (a 21, .inl (x.1, 10, .inl (σ.2.1 21))) := rfl
theorem rC_21 {a : Nat → Nat} {x : ClassId × ClassId × ClassId} {σ : ZS} {f : Nat → Int32} : (wC a x σ).set 21 (a 21, .inl (x.1, 10, .inl f)) = wC a x (setR σ 21 f) := rfl
theorem uC_21 {a : Nat → Nat} {x : ClassId × ClassId × ClassId} {σ : ZS} {i : Nat} {v : Int32} : (wC a x σ).set 21 (a 21, .inl (x.1, 10, .inl (upd (σ.2.1 21) i v))) = wC a x (setA σ 21 i v) := rfl
theorem gC_22 {a : Nat → Nat} {x : ClassId × ClassId × ClassId} {σ : ZS} : (wC a x σ)[22]? = some (a 22, .inl (x.1, 10, .inl (σ.2.1 22))) := rfl
theorem rC_22 {a : Nat → Nat} {x : ClassId × ClassId × ClassId} {σ : ZS} {f : Nat → Int32} : (wC a x σ).set 22 (a 22, .inl (x.1, 10, .inl f)) = wC a x (setR σ 22 f) := rfl
theorem uC_22 {a : Nat → Nat} {x : ClassId × ClassId × ClassId} {σ : ZS} {i : Nat} {v : Int32} : (wC a x σ).set 22 (a 22, .inl (x.1, 10, .inl (upd (σ.2.1 22) i v))) = wC a x (setA σ 22 i v) := rfl
theorem gC_23 {a : Nat → Nat} {x : ClassId × ClassId × ClassId} {σ : ZS} : (wC a x σ)[23]? = some (a 23, .inl (x.1, 10, .inl (σ.2.1 23))) := rfl
theorem rC_23 {a : Nat → Nat} {x : ClassId × ClassId × ClassId} {σ : ZS} {f : Nat → Int32} : (wC a x σ).set 23 (a 23, .inl (x.1, 10, .inl f)) = wC a x (setR σ 23 f) := rfl
theorem uC_23 {a : Nat → Nat} {x : ClassId × ClassId × ClassId} {σ : ZS} {i : Nat} {v : Int32} : (wC a x σ).set 23 (a 23, .inl (x.1, 10, .inl (upd (σ.2.1 23) i v))) = wC a x (setA σ 23 i v) := rfl
theorem gC_24 {a : Nat → Nat} {x : ClassId × ClassId × ClassId} {σ : ZS} : (wC a x σ)[24]? = some (a 24, .inl (x.1, 10, .inl (σ.2.1 24))) := rfl
theorem rC_24 {a : Nat → Nat} {x : ClassId × ClassId × ClassId} {σ : ZS} {f : Nat → Int32} : (wC a x σ).set 24 (a 24, .inl (x.1, 10, .inl f)) = wC a x (setR σ 24 f) := rfl
theorem uC_24 {a : Nat → Nat} {x : ClassId × ClassId × ClassId} {σ : ZS} {i : Nat} {v : Int32} : (wC a x σ).set 24 (a 24, .inl (x.1, 10, .inl (upd (σ.2.1 24) i v))) = wC a x (setA σ 24 i v) := rfl
theorem gC_25 {a : Nat → Nat} {x : ClassId × ClassId × ClassId} {σ : ZS} : (wC a x σ)[25]? = some (a 25, .inl (x.1, 10, .inl (σ.2.1 25))) := rfl
theorem rC_25 {a : Nat → Nat} {x : ClassId × ClassId × ClassId} {σ : ZS} {f : Nat → Int32} : (wC a x σ).set 25 (a 25, .inl (x.1, 10, .inl f)) = wC a x (setR σ 25 f) := rfl
theorem uC_25 {a : Nat → Nat} {x : ClassId × ClassId × ClassId} {σ : ZS} {i : Nat} {v : Int32} : (wC a x σ).set 25 (a 25, .inl (x.1, 10, .inl (upd (σ.2.1 25) i v))) = wC a x (setA σ 25 i v) := rfl
theorem gC_26 {a : Nat → Nat} {x : ClassId × ClassId × ClassId} {σ : ZS} : (wC a x σ)[26]? = some (a 26, .inl (x.1, 10, .inl (σ.2.1 26))) := rfl
theorem rC_26 {a : Nat → Nat} {x : ClassId × ClassId × ClassId} {σ : ZS} {f : Nat → Int32} : (wC a x σ).set 26 (a 26, .inl (x.1, 10, .inl f)) = wC a x (setR σ 26 f) := rfl
theorem uC_26 {a : Nat → Nat} {x : ClassId × ClassId × ClassId} {σ : ZS} {i : Nat} {v : Int32} : (wC a x σ).set 26 (a 26, .inl (x.1, 10, .inl (upd (σ.2.1 26) i v))) = wC a x (setA σ 26 i v) := rfl
theorem gC_27 {a : Nat → Nat} {x : ClassId × ClassId × ClassId} {σ : ZS} : (wC a x σ)[27]? = some (a 27, .inl (x.1, 10, .inl (σ.2.1 27))) := rfl
theorem rC_27 {a : Nat → Nat} {x : ClassId × ClassId × ClassId} {σ : ZS} {f : Nat → Int32} : (wC a x σ).set 27 (a 27, .inl (x.1, 10, .inl f)) = wC a x (setR σ 27 f) := rfl
theorem uC_27 {a : Nat → Nat} {x : ClassId × ClassId × ClassId} {σ : ZS} {i : Nat} {v : Int32} : (wC a x σ).set 27 (a 27, .inl (x.1, 10, .inl (upd (σ.2.1 27) i v))) = wC a x (setA σ 27 i v) := rfl
theorem gC_28 {a : Nat → Nat} {x : ClassId × ClassId × ClassId} {σ : ZS} : (wC a x σ)[28]? = some (a 28, .inl (x.1, 10, .inl (σ.2.1 28))) := rfl
theorem rC_28 {a : Nat → Nat} {x : ClassId × ClassId × ClassId} {σ : ZS} {f : Nat → Int32} : (wC a x σ).set 28 (a 28, .inl (x.1, 10, .inl f)) = wC a x (setR σ 28 f) := rfl
theorem uC_28 {a : Nat → Nat} {x : ClassId × ClassId × ClassId} {σ : ZS} {i : Nat} {v : Int32} : (wC a x σ).set 28 (a 28, .inl (x.1, 10, .inl (upd (σ.2.1 28) i v))) = wC a x (setA σ 28 i v) := rfl
theorem gC_29 {a : Nat → Nat} {x : ClassId × ClassId × ClassId} {σ : ZS} : (wC a x σ)[29]? = some (a 29, .inl (x.1, 10, .inl (σ.2.1 29))) := rfl
theorem rC_29 {a : Nat → Nat} {x : ClassId × ClassId × ClassId} {σ : ZS} {f : Nat → Int32} : (wC a x σ).set 29 (a 29, .inl (x.1, 10, .inl f)) = wC a x (setR σ 29 f) := rfl
theorem uC_29 {a : Nat → Nat} {x : ClassId × ClassId × ClassId} {σ : ZS} {i : Nat} {v : Int32} : (wC a x σ).set 29 (a 29, .inl (x.1, 10, .inl (upd (σ.2.1 29) i v))) = wC a x (setA σ 29 i v) := rfl
theorem gC_30 {a : Nat → Nat} {x : ClassId × ClassId × ClassId} {σ : ZS} : (wC a x σ)[30]? = some (a 30, .inl (x.1, 10, .inl (σ.2.1 30))) := rfl
theorem rC_30 {a : Nat → Nat} {x : ClassId × ClassId × ClassId} {σ : ZS} {f : Nat → Int32} : (wC a x σ).set 30 (a 30, .inl (x.1, 10, .inl f)) = wC a x (setR σ 30 f) := rfl
theorem uC_30 {a : Nat → Nat} {x : ClassId × ClassId × ClassId} {σ : ZS} {i : Nat} {v : Int32} : (wC a x σ).set 30 (a 30, .inl (x.1, 10, .inl (upd (σ.2.1 30) i v))) = wC a x (setA σ 30 i v) := rfl
theorem gC_31 {a : Nat → Nat} {x : ClassId × ClassId × ClassId} {σ : ZS} : (wC a x σ)[31]? = some (a 31, .inl (x.1, 10, .inl (σ.2.1 31))) := rfl
theorem rC_31 {a : Nat → Nat} {x : ClassId × ClassId × ClassId} {σ : ZS} {f : Nat → Int32} : (wC a x σ).set 31 (a 31, .inl (x.1, 10, .inl f)) = wC a x (setR σ 31 f) := rfl
theorem uC_31 {a : Nat → Nat} {x : ClassId × ClassId × ClassId} {σ : ZS} {i : Nat} {v : Int32} : (wC a x σ).set 31 (a 31, .inl (x.1, 10, .inl (upd (σ.2.1 31) i v))) = wC a x (setA σ 31 i v) := rfl
theorem gC_32 {a : Nat → Nat} {x : ClassId × ClassId × ClassId} {σ : ZS} : (wC a x σ)[32]? = some (a 32, .inl (x.1, 10, .inl (σ.2.1 32))) := rfl
theorem rC_32 {a : Nat → Nat} {x : ClassId × ClassId × ClassId} {σ : ZS} {f : Nat → Int32} : (wC a x σ).set 32 (a 32, .inl (x.1, 10, .inl f)) = wC a x (setR σ 32 f) := rfl
theorem uC_32 {a : Nat → Nat} {x : ClassId × ClassId × ClassId} {σ : ZS} {i : Nat} {v : Int32} : (wC a x σ).set 32 (a 32, .inl (x.1, 10, .inl (upd (σ.2.1 32) i v))) = wC a x (setA σ 32 i v) := rfl
def wM (a : Nat → Nat) (x : ClassId × ClassId × ClassId) (σ : ZS) : va_W := [(a 0, .inr (7, [.int (σ.1 0), .ref (a 1), .int (σ.1 1), .ref (a 2), .ref (a 3), .ref (a 4), .int (σ.1 2), .ref (a 5), .ref (a 6), .ref (a 7), .int (σ.1 3), .int (σ.1 4), .ref (a 8), .ref (a 9), .ref (a 10), .ref (a 11), .int (σ.1 5), .int (σ.1 6), .ref (a 12), .ref (a 13)])), (a 1, .inl (x.1, 100, .inl (σ.2.1 1))), (a 2, .inl (x.1, 12, .inl (σ.2.1 2))), (a 3, .inl (x.1, 12, .inl (σ.2.1 3))), (a 4, .inl (x.1, 12, .inl (σ.2.1 4))), (a 5, .inl (x.1, 18, .inl (σ.2.1 5))), (a 6, .inl (x.1, 18, .inl (σ.2.1 6))), (a 7, .inl (x.1, 18, .inl (σ.2.1 7))), (a 8, .inl (x.1, 100, .inl (σ.2.1 8))), (a 9, .inl (x.1, 10, .inl (σ.2.1 9))), (a 10, .inl (x.1, 100, .inl (σ.2.1 10))), (a 11, .inl (x.1, 10, .inl (σ.2.1 11))), (a 12, .inl (x.1, 70, .inl (σ.2.1 12))), (a 13, .inl (x.1, 16, .inl (σ.2.1 13)))]
theorem gM_0 {a : Nat → Nat} {x : ClassId × ClassId × ClassId} {σ : ZS} : (wM a x σ)[0]? = some (a 0, .inr (7, [.int (σ.1 0), .ref (a 1), .int (σ.1 1), .ref (a 2), .ref (a 3), .ref (a 4), .int (σ.1 2), .ref (a 5), .ref (a 6), .ref (a 7), .int (σ.1 3), .int (σ.1 4), .ref (a 8), .ref (a 9), .ref (a 10), .ref (a 11), .int (σ.1 5), .int (σ.1 6), .ref (a 12), .ref (a 13)])) := rfl
theorem pM_0_0 {a : Nat → Nat} {x : ClassId × ClassId × ClassId} {σ : ZS} {v : Int32} : (wM a x σ).set 0 (a 0, .inr (7, [.int (σ.1 0), .ref (a 1), .int (σ.1 1), .ref (a 2), .ref (a 3), .ref (a 4), .int (σ.1 2), .ref (a 5), .ref (a 6), .ref (a 7), .int (σ.1 3), .int (σ.1 4), .ref (a 8), .ref (a 9), .ref (a 10), .ref (a 11), .int (σ.1 5), .int (σ.1 6), .ref (a 12), .ref (a 13)].set 0 (.int v))) = wM a x (setI σ 0 v) := rfl
theorem pM_0_2 {a : Nat → Nat} {x : ClassId × ClassId × ClassId} {σ : ZS} {v : Int32} : (wM a x σ).set 0 (a 0, .inr (7, [.int (σ.1 0), .ref (a 1), .int (σ.1 1), .ref (a 2), .ref (a 3), .ref (a 4), .int (σ.1 2), .ref (a 5), .ref (a 6), .ref (a 7), .int (σ.1 3), .int (σ.1 4), .ref (a 8), .ref (a 9), .ref (a 10), .ref (a 11), .int (σ.1 5), .int (σ.1 6), .ref (a 12), .ref (a 13)].set 2 (.int v))) = wM a x (setI σ 1 v) := rfl
theorem pM_0_6 {a : Nat → Nat} {x : ClassId × ClassId × ClassId} {σ : ZS} {v : Int32} : (wM a x σ).set 0 (a 0, .inr (7, [.int (σ.1 0), .ref (a 1), .int (σ.1 1), .ref (a 2), .ref (a 3), .ref (a 4), .int (σ.1 2), .ref (a 5), .ref (a 6), .ref (a 7), .int (σ.1 3), .int (σ.1 4), .ref (a 8), .ref (a 9), .ref (a 10), .ref (a 11), .int (σ.1 5), .int (σ.1 6), .ref (a 12), .ref (a 13)].set 6 (.int v))) = wM a x (setI σ 2 v) := rfl
theorem pM_0_10 {a : Nat → Nat} {x : ClassId × ClassId × ClassId} {σ : ZS} {v : Int32} : (wM a x σ).set 0 (a 0, .inr (7, [.int (σ.1 0), .ref (a 1), .int (σ.1 1), .ref (a 2), .ref (a 3), .ref (a 4), .int (σ.1 2), .ref (a 5), .ref (a 6), .ref (a 7), .int (σ.1 3), .int (σ.1 4), .ref (a 8), .ref (a 9), .ref (a 10), .ref (a 11), .int (σ.1 5), .int (σ.1 6), .ref (a 12), .ref (a 13)].set 10 (.int v))) = wM a x (setI σ 3 v) := rfl
theorem pM_0_11 {a : Nat → Nat} {x : ClassId × ClassId × ClassId} {σ : ZS} {v : Int32} : (wM a x σ).set 0 (a 0, .inr (7, [.int (σ.1 0), .ref (a 1), .int (σ.1 1), .ref (a 2), .ref (a 3), .ref (a 4), .int (σ.1 2), .ref (a 5), .ref (a 6), .ref (a 7), .int (σ.1 3), .int (σ.1 4), .ref (a 8), .ref (a 9), .ref (a 10), .ref (a 11), .int (σ.1 5), .int (σ.1 6), .ref (a 12), .ref (a 13)].set 11 (.int v))) = wM a x (setI σ 4 v) := rfl
theorem pM_0_16 {a : Nat → Nat} {x : ClassId × ClassId × ClassId} {σ : ZS} {v : Int32} : (wM a x σ).set 0 (a 0, .inr (7, [.int (σ.1 0), .ref (a 1), .int (σ.1 1), .ref (a 2), .ref (a 3), .ref (a 4), .int (σ.1 2), .ref (a 5), .ref (a 6), .ref (a 7), .int (σ.1 3), .int (σ.1 4), .ref (a 8), .ref (a 9), .ref (a 10), .ref (a 11), .int (σ.1 5), .int (σ.1 6), .ref (a 12), .ref (a 13)].set 16 (.int v))) = wM a x (setI σ 5 v) := rfl
theorem pM_0_17 {a : Nat → Nat} {x : ClassId × ClassId × ClassId} {σ : ZS} {v : Int32} : (wM a x σ).set 0 (a 0, .inr (7, [.int (σ.1 0), .ref (a 1), .int (σ.1 1), .ref (a 2), .ref (a 3), .ref (a 4), .int (σ.1 2), .ref (a 5), .ref (a 6), .ref (a 7), .int (σ.1 3), .int (σ.1 4), .ref (a 8), .ref (a 9), .ref (a 10), .ref (a 11), .int (σ.1 5), .int (σ.1 6), .ref (a 12), .ref (a 13)].set 17 (.int v))) = wM a x (setI σ 6 v) := rfl
theorem gM_1 {a : Nat → Nat} {x : ClassId × ClassId × ClassId} {σ : ZS} : (wM a x σ)[1]? = some (a 1, .inl (x.1, 100, .inl (σ.2.1 1))) := rfl
theorem rM_1 {a : Nat → Nat} {x : ClassId × ClassId × ClassId} {σ : ZS} {f : Nat → Int32} : (wM a x σ).set 1 (a 1, .inl (x.1, 100, .inl f)) = wM a x (setR σ 1 f) := rfl
theorem uM_1 {a : Nat → Nat} {x : ClassId × ClassId × ClassId} {σ : ZS} {i : Nat} {v : Int32} : (wM a x σ).set 1 (a 1, .inl (x.1, 100, .inl (upd (σ.2.1 1) i v))) = wM a x (setA σ 1 i v) := rfl
theorem gM_2 {a : Nat → Nat} {x : ClassId × ClassId × ClassId} {σ : ZS} : (wM a x σ)[2]? = some (a 2, .inl (x.1, 12, .inl (σ.2.1 2))) := rfl
theorem rM_2 {a : Nat → Nat} {x : ClassId × ClassId × ClassId} {σ : ZS} {f : Nat → Int32} : (wM a x σ).set 2 (a 2, .inl (x.1, 12, .inl f)) = wM a x (setR σ 2 f) := rfl
theorem uM_2 {a : Nat → Nat} {x : ClassId × ClassId × ClassId} {σ : ZS} {i : Nat} {v : Int32} : (wM a x σ).set 2 (a 2, .inl (x.1, 12, .inl (upd (σ.2.1 2) i v))) = wM a x (setA σ 2 i v) := rfl
theorem gM_3 {a : Nat → Nat} {x : ClassId × ClassId × ClassId} {σ : ZS} : (wM a x σ)[3]? = some (a 3, .inl (x.1, 12, .inl (σ.2.1 3))) := rfl
theorem rM_3 {a : Nat → Nat} {x : ClassId × ClassId × ClassId} {σ : ZS} {f : Nat → Int32} : (wM a x σ).set 3 (a 3, .inl (x.1, 12, .inl f)) = wM a x (setR σ 3 f) := rfl
theorem uM_3 {a : Nat → Nat} {x : ClassId × ClassId × ClassId} {σ : ZS} {i : Nat} {v : Int32} : (wM a x σ).set 3 (a 3, .inl (x.1, 12, .inl (upd (σ.2.1 3) i v))) = wM a x (setA σ 3 i v) := rfl
theorem gM_4 {a : Nat → Nat} {x : ClassId × ClassId × ClassId} {σ : ZS} : (wM a x σ)[4]? = some (a 4, .inl (x.1, 12, .inl (σ.2.1 4))) := rfl
theorem rM_4 {a : Nat → Nat} {x : ClassId × ClassId × ClassId} {σ : ZS} {f : Nat → Int32} : (wM a x σ).set 4 (a 4, .inl (x.1, 12, .inl f)) = wM a x (setR σ 4 f) := rfl
theorem uM_4 {a : Nat → Nat} {x : ClassId × ClassId × ClassId} {σ : ZS} {i : Nat} {v : Int32} : (wM a x σ).set 4 (a 4, .inl (x.1, 12, .inl (upd (σ.2.1 4) i v))) = wM a x (setA σ 4 i v) := rfl
theorem gM_5 {a : Nat → Nat} {x : ClassId × ClassId × ClassId} {σ : ZS} : (wM a x σ)[5]? = some (a 5, .inl (x.1, 18, .inl (σ.2.1 5))) := rfl
theorem rM_5 {a : Nat → Nat} {x : ClassId × ClassId × ClassId} {σ : ZS} {f : Nat → Int32} : (wM a x σ).set 5 (a 5, .inl (x.1, 18, .inl f)) = wM a x (setR σ 5 f) := rfl
theorem uM_5 {a : Nat → Nat} {x : ClassId × ClassId × ClassId} {σ : ZS} {i : Nat} {v : Int32} : (wM a x σ).set 5 (a 5, .inl (x.1, 18, .inl (upd (σ.2.1 5) i v))) = wM a x (setA σ 5 i v) := rfl
theorem gM_6 {a : Nat → Nat} {x : ClassId × ClassId × ClassId} {σ : ZS} : (wM a x σ)[6]? = some (a 6, .inl (x.1, 18, .inl (σ.2.1 6))) := rfl
theorem rM_6 {a : Nat → Nat} {x : ClassId × ClassId × ClassId} {σ : ZS} {f : Nat → Int32} : (wM a x σ).set 6 (a 6, .inl (x.1, 18, .inl f)) = wM a x (setR σ 6 f) := rfl
theorem uM_6 {a : Nat → Nat} {x : ClassId × ClassId × ClassId} {σ : ZS} {i : Nat} {v : Int32} : (wM a x σ).set 6 (a 6, .inl (x.1, 18, .inl (upd (σ.2.1 6) i v))) = wM a x (setA σ 6 i v) := rfl
theorem gM_7 {a : Nat → Nat} {x : ClassId × ClassId × ClassId} {σ : ZS} : (wM a x σ)[7]? = some (a 7, .inl (x.1, 18, .inl (σ.2.1 7))) := rfl
theorem rM_7 {a : Nat → Nat} {x : ClassId × ClassId × ClassId} {σ : ZS} {f : Nat → Int32} : (wM a x σ).set 7 (a 7, .inl (x.1, 18, .inl f)) = wM a x (setR σ 7 f) := rfl
theorem uM_7 {a : Nat → Nat} {x : ClassId × ClassId × ClassId} {σ : ZS} {i : Nat} {v : Int32} : (wM a x σ).set 7 (a 7, .inl (x.1, 18, .inl (upd (σ.2.1 7) i v))) = wM a x (setA σ 7 i v) := rfl
theorem gM_8 {a : Nat → Nat} {x : ClassId × ClassId × ClassId} {σ : ZS} : (wM a x σ)[8]? = some (a 8, .inl (x.1, 100, .inl (σ.2.1 8))) := rfl
theorem rM_8 {a : Nat → Nat} {x : ClassId × ClassId × ClassId} {σ : ZS} {f : Nat → Int32} : (wM a x σ).set 8 (a 8, .inl (x.1, 100, .inl f)) = wM a x (setR σ 8 f) := rfl
theorem uM_8 {a : Nat → Nat} {x : ClassId × ClassId × ClassId} {σ : ZS} {i : Nat} {v : Int32} : (wM a x σ).set 8 (a 8, .inl (x.1, 100, .inl (upd (σ.2.1 8) i v))) = wM a x (setA σ 8 i v) := rfl
theorem gM_9 {a : Nat → Nat} {x : ClassId × ClassId × ClassId} {σ : ZS} : (wM a x σ)[9]? = some (a 9, .inl (x.1, 10, .inl (σ.2.1 9))) := rfl
theorem rM_9 {a : Nat → Nat} {x : ClassId × ClassId × ClassId} {σ : ZS} {f : Nat → Int32} : (wM a x σ).set 9 (a 9, .inl (x.1, 10, .inl f)) = wM a x (setR σ 9 f) := rfl
theorem uM_9 {a : Nat → Nat} {x : ClassId × ClassId × ClassId} {σ : ZS} {i : Nat} {v : Int32} : (wM a x σ).set 9 (a 9, .inl (x.1, 10, .inl (upd (σ.2.1 9) i v))) = wM a x (setA σ 9 i v) := rfl
theorem gM_10 {a : Nat → Nat} {x : ClassId × ClassId × ClassId} {σ : ZS} : (wM a x σ)[10]? = some (a 10, .inl (x.1, 100, .inl (σ.2.1 10))) := rfl
theorem rM_10 {a : Nat → Nat} {x : ClassId × ClassId × ClassId} {σ : ZS} {f : Nat → Int32} : (wM a x σ).set 10 (a 10, .inl (x.1, 100, .inl f)) = wM a x (setR σ 10 f) := rfl
theorem uM_10 {a : Nat → Nat} {x : ClassId × ClassId × ClassId} {σ : ZS} {i : Nat} {v : Int32} : (wM a x σ).set 10 (a 10, .inl (x.1, 100, .inl (upd (σ.2.1 10) i v))) = wM a x (setA σ 10 i v) := rfl
theorem gM_11 {a : Nat → Nat} {x : ClassId × ClassId × ClassId} {σ : ZS} : (wM a x σ)[11]? = some (a 11, .inl (x.1, 10, .inl (σ.2.1 11))) := rfl
theorem rM_11 {a : Nat → Nat} {x : ClassId × ClassId × ClassId} {σ : ZS} {f : Nat → Int32} : (wM a x σ).set 11 (a 11, .inl (x.1, 10, .inl f)) = wM a x (setR σ 11 f) := rfl
theorem uM_11 {a : Nat → Nat} {x : ClassId × ClassId × ClassId} {σ : ZS} {i : Nat} {v : Int32} : (wM a x σ).set 11 (a 11, .inl (x.1, 10, .inl (upd (σ.2.1 11) i v))) = wM a x (setA σ 11 i v) := rfl
theorem gM_12 {a : Nat → Nat} {x : ClassId × ClassId × ClassId} {σ : ZS} : (wM a x σ)[12]? = some (a 12, .inl (x.1, 70, .inl (σ.2.1 12))) := rfl
theorem rM_12 {a : Nat → Nat} {x : ClassId × ClassId × ClassId} {σ : ZS} {f : Nat → Int32} : (wM a x σ).set 12 (a 12, .inl (x.1, 70, .inl f)) = wM a x (setR σ 12 f) := rfl
theorem uM_12 {a : Nat → Nat} {x : ClassId × ClassId × ClassId} {σ : ZS} {i : Nat} {v : Int32} : (wM a x σ).set 12 (a 12, .inl (x.1, 70, .inl (upd (σ.2.1 12) i v))) = wM a x (setA σ 12 i v) := rfl
theorem gM_13 {a : Nat → Nat} {x : ClassId × ClassId × ClassId} {σ : ZS} : (wM a x σ)[13]? = some (a 13, .inl (x.1, 16, .inl (σ.2.1 13))) := rfl
theorem rM_13 {a : Nat → Nat} {x : ClassId × ClassId × ClassId} {σ : ZS} {f : Nat → Int32} : (wM a x σ).set 13 (a 13, .inl (x.1, 16, .inl f)) = wM a x (setR σ 13 f) := rfl
theorem uM_13 {a : Nat → Nat} {x : ClassId × ClassId × ClassId} {σ : ZS} {i : Nat} {v : Int32} : (wM a x σ).set 13 (a 13, .inl (x.1, 16, .inl (upd (σ.2.1 13) i v))) = wM a x (setA σ 13 i v) := rfl
theorem gC_row {a : Nat → Nat} {x : ClassId × ClassId × ClassId} {σ : ZS} {i : Nat} (h : i < 10) : (wC a x σ)[23 + i]? = some (a (23 + i), .inl (x.1, 10, .inl (σ.2.1 (23 + i)))) := by
  match i, h with
  | 0, _ => rfl
  | 1, _ => rfl
  | 2, _ => rfl
  | 3, _ => rfl
  | 4, _ => rfl
  | 5, _ => rfl
  | 6, _ => rfl
  | 7, _ => rfl
  | 8, _ => rfl
  | 9, _ => rfl
  | n + 10, h => exact absurd h (by omega)
theorem uC_row {a : Nat → Nat} {x : ClassId × ClassId × ClassId} {σ : ZS} {i j : Nat} {v : Int32} (h : i < 10) : (wC a x σ).set (23 + i) (a (23 + i), .inl (x.1, 10, .inl (upd (σ.2.1 (23 + i)) j v))) = wC a x (setA σ (23 + i) j v) := by
  match i, h with
  | 0, _ => rfl
  | 1, _ => rfl
  | 2, _ => rfl
  | 3, _ => rfl
  | 4, _ => rfl
  | 5, _ => rfl
  | 6, _ => rfl
  | 7, _ => rfl
  | 8, _ => rfl
  | 9, _ => rfl
  | n + 10, h => exact absurd h (by omega)
section ZC
variable {p : Program} {l : Launch} {e : Env} {R : Room} {s : State} {m : MethodId} {args : Array Value} {below : List Frame} {meth : Method} {c : Code} {cells slots : Nat} {Q : State → Prop} {D : va_G} {A : Nat → Prop} {tys : List (ClassId × FieldType)} {own : String} {cc : ByteArray} {nL : Nat}
variable {ws ws' : va_W} {pc : Nat} {lv : List (Nat × Value)} {st0 : List Value}
theorem z_callV1 (C : zx_C p s m args c D tys own cc nL) (As rest : List Value) {v : Value} {a ci q0 : Nat} {fs : List Value} {T : u_T} {N : Nat} {y : MethodName} {bytes : ByteArray} {maxL index n : Nat} {ret : Option FieldType} {rm : Room} (hst : As.reverse ++ .ref a :: rest = st0) (hM : zM l y (.code y bytes maxL ret) rm D A tys (.ref a :: As) ws (some v) ws') (hcd : Cond.code y bytes maxL ret ∈ gtbl) (hini : Cond.initialized y.cls ∈ gtbl) (hlk : Cond.methodLink own index y ∈ gtbl) (him : Cond.instanceMethod y ∈ gtbl) (hsl : Cond.selects y.cls y y ∈ gtbl) (he : ws[q0]? = some (a, .inr (ci, fs))) (hc : clz[ci]? = some (y.cls, T, N)) (hd : y.cls ≠ "java/lang/invoke/MethodHandle" ∧ y.cls ≠ "java/lang/invoke/VarHandle" ∧ (parseMethodDescriptor y.desc).map (fun d => d.parameters.length) = some n) (hR : (rm.frames + 1 ≤ R.frames ∧ 8 + (maxL + 11) + rm.locals ≤ R.locals) ∧ rm.cells = 0 ∧ rm.slots = 0) (hn : As.length = n) (hW : (rest.map fun v => v.category).sum ≤ 8) (hf : cells ≤ R.cells ∧ slots ≤ R.slots) (d : decode cc pc = .ok (.invokevirtual index, 3)) (k : zV p l e R s m args below meth c cells slots Q D A nL ws' (pc + 3) lv (v :: rest)) : zV p l e R s m args below meth c cells slots Q D A nL ws pc lv st0 := by
  subst hst
  exact z_callV (ov := (some v)) (As := As) (rest := rest) C hM hcd hini hlk him hsl he hc hd hR hn hW hf d k
theorem z_callV0 (C : zx_C p s m args c D tys own cc nL) (As rest : List Value)  {a ci q0 : Nat} {fs : List Value} {T : u_T} {N : Nat} {y : MethodName} {bytes : ByteArray} {maxL index n : Nat} {ret : Option FieldType} {rm : Room} (hst : As.reverse ++ .ref a :: rest = st0) (hM : zM l y (.code y bytes maxL ret) rm D A tys (.ref a :: As) ws none ws') (hcd : Cond.code y bytes maxL ret ∈ gtbl) (hini : Cond.initialized y.cls ∈ gtbl) (hlk : Cond.methodLink own index y ∈ gtbl) (him : Cond.instanceMethod y ∈ gtbl) (hsl : Cond.selects y.cls y y ∈ gtbl) (he : ws[q0]? = some (a, .inr (ci, fs))) (hc : clz[ci]? = some (y.cls, T, N)) (hd : y.cls ≠ "java/lang/invoke/MethodHandle" ∧ y.cls ≠ "java/lang/invoke/VarHandle" ∧ (parseMethodDescriptor y.desc).map (fun d => d.parameters.length) = some n) (hR : (rm.frames + 1 ≤ R.frames ∧ 8 + (maxL + 11) + rm.locals ≤ R.locals) ∧ rm.cells = 0 ∧ rm.slots = 0) (hn : As.length = n) (hW : (rest.map fun v => v.category).sum ≤ 8) (hf : cells ≤ R.cells ∧ slots ≤ R.slots) (d : decode cc pc = .ok (.invokevirtual index, 3)) (k : zV p l e R s m args below meth c cells slots Q D A nL ws' (pc + 3) lv rest) : zV p l e R s m args below meth c cells slots Q D A nL ws pc lv st0 := by
  subst hst
  exact z_callV (ov := none) (As := As) (rest := rest) C hM hcd hini hlk him hsl he hc hd hR hn hW hf d k
theorem z_callS1 (C : zx_C p s m args c D tys own cc nL) (As rest : List Value) {v : Value} {y : MethodName} {bytes : ByteArray} {maxL index n : Nat} {ret : Option FieldType} {rm : Room}  (hst : As.reverse ++ rest = st0) (hM : zM l y (.code y bytes maxL ret) rm D A tys As ws (some v) ws') (hcd : Cond.code y bytes maxL ret ∈ gtbl) (hini : Cond.initialized y.cls ∈ gtbl) (hlk : Cond.methodLink own index y ∈ gtbl) (hs : Cond.static y ∈ gtbl) (hd : y.cls ≠ "java/lang/invoke/MethodHandle" ∧ y.cls ≠ "java/lang/invoke/VarHandle" ∧ (parseMethodDescriptor y.desc).map (fun d => d.parameters.length) = some n) (hR : (rm.frames + 1 ≤ R.frames ∧ 8 + (maxL + 11) + rm.locals ≤ R.locals) ∧ rm.cells = 0 ∧ rm.slots = 0) (hn : As.length = n) (hW : (rest.map fun v => v.category).sum ≤ 8) (hf : cells ≤ R.cells ∧ slots ≤ R.slots) (d : decode cc pc = .ok (.invokestatic index, 3)) (k : zV p l e R s m args below meth c cells slots Q D A nL ws' (pc + 3) lv (v :: rest)) : zV p l e R s m args below meth c cells slots Q D A nL ws pc lv st0 := by
  subst hst
  exact z_callS (ov := some v) (As := As) (rest := rest) C hM hcd hini hlk hs hd hR hn hW hf d k
theorem z_callSN1 (C : zx_C p s m args c D tys own cc nL) (As rest : List Value) {v : Value} {y : MethodName} {bytes : ByteArray} {maxL index n : Nat} {ret : Option FieldType} {rm : Room} {host : String} (j : Nat) (hst : As.reverse ++ rest = st0) (hM : zM l y (.code y bytes maxL ret) rm D A tys As ws (some v) ws') (hcd : Cond.code y bytes maxL ret ∈ gtbl) (hini : Cond.initialized y.cls ∈ gtbl) (hlk : nqs[j]? = some (own, index, y, host)) (hs : Cond.static y ∈ gtbl) (hd : y.cls ≠ "java/lang/invoke/MethodHandle" ∧ y.cls ≠ "java/lang/invoke/VarHandle" ∧ (parseMethodDescriptor y.desc).map (fun d => d.parameters.length) = some n) (hR : (rm.frames + 1 ≤ R.frames ∧ 8 + (maxL + 11) + rm.locals ≤ R.locals) ∧ rm.cells = 0 ∧ rm.slots = 0) (hn : As.length = n) (hW : (rest.map fun v => v.category).sum ≤ 8) (hf : cells ≤ R.cells ∧ slots ≤ R.slots) (d : decode cc pc = .ok (.invokestatic index, 3)) (k : zV p l e R s m args below meth c cells slots Q D A nL ws' (pc + 3) lv (v :: rest)) : zV p l e R s m args below meth c cells slots Q D A nL ws pc lv st0 := by
  subst hst
  exact z_callSN (ov := some v) (As := As) (rest := rest) C j hM hcd hini hlk hs hd hR hn hW hf d k
end ZC
