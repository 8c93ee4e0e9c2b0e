/-! THE STATE of the class and of the reference, as numbers: scalars gI (ints and booleans of objects), rows gA (by the number of their cell), rows of longs gL, the numbers of the cells that two fields name (gR), longs gJ -/
abbrev St : Type := (Nat → Int32) × (Nat → Nat → Int32) × (Nat → Nat → Int64) × (Nat → Nat) × (Nat → Int64)
def gI (S : St) (k : Nat) : Int32 := S.1 k
def gA (S : St) (k : Nat) : Nat → Int32 := S.2.1 k
def gL (S : St) (k : Nat) : Nat → Int64 := S.2.2.1 k
def gR (S : St) (k : Nat) : Nat := S.2.2.2.1 k
def gJ (S : St) (k : Nat) : Int64 := S.2.2.2.2 k
def pI (S : St) (k : Nat) (v : Int32) : St := (va_up S.1 k v, S.2)
def pA (S : St) (k : Nat) (v : Nat → Int32) : St := (S.1, va_up S.2.1 k v, S.2.2)
def pL (S : St) (k : Nat) (v : Nat → Int64) : St := (S.1, S.2.1, va_up S.2.2.1 k v, S.2.2.2)
def pR (S : St) (k : Nat) (v : Nat) : St := (S.1, S.2.1, S.2.2.1, va_up S.2.2.2.1 k v, S.2.2.2.2)
def pJ (S : St) (k : Nat) (v : Int64) : St := (S.1, S.2.1, S.2.2.1, S.2.2.2.1, va_up S.2.2.2.2 k v)
/-- what stays all through a run: the classes, the cells' addresses, the classes of the arrays, the addresses of the texts, of their bytes, of the tables -/
abbrev Bw : Type := va_G × (Nat → Nat) × (Nat → ClassId) × (Nat → Nat) × (Nat → Nat) × (Nat → Nat)
def bD (b : Bw) : va_G := b.1
def bad (b : Bw) (k : Nat) : Nat := b.2.1 k
def bcy (b : Bw) (k : Nat) : ClassId := b.2.2.1 k
def bK (b : Bw) (k : Nat) : Nat := b.2.2.2.1 k
def bV (b : Bw) (k : Nat) : Nat := b.2.2.2.2.1 k
def bT (b : Bw) (k : Nat) : Nat := b.2.2.2.2.2 k
def btys (b : Bw) : List (ClassId × FieldType) := [(bcy b 0, .byte), (bcy b 1, .int), (bcy b 2, .long), (bcy b 3, .boolean), (bcy b 4, .array .int)]
def nW : Nat := 67
def world (b : Bw) (S : St) : va_W := [
  (bad b 0, .inr (10, [.long (gJ S 0), .ref (bad b 1), .ref (bad b 5), .ref (bad b 6), .ref (bad b 7), .ref (bad b 8), .ref (bad b 10), .ref (bad b 11)])),
  (bad b 1, .inr (8, [.ref (bad b 2), .ref (bad b 3), .ref (bad b 4), .int (gI S 0), .int (gI S 1)])),
  (bad b 2, .inr (3, [.ref (bad b 13), .ref (bad b 14), .ref (bad b 15), .ref (bad b 16), .ref (bad b 17), .int (gI S 2)])),
  (bad b 3, .inr (2, [.ref (bad b 18), .ref (bad b 19), .ref (bad b 20), .int (gI S 3)])),
  (bad b 4, .inr (0, [.ref (bad b 21), .ref (bad b 22), .ref (bad b 23), .int (gI S 4)])),
  (bad b 5, .inr (9, [.ref (bad b 24), .int (gI S 5)])),
  (bad b 6, .inr (7, [.ref (bad b 25), .ref (bad b 30), .int (gI S 6), .int (gI S 7)])),
  (bad b 7, .inr (6, [.int (gI S 8), .int (gI S 9), .int (gI S 10), .int (gI S 11)])),
  (bad b 8, .inr (5, [.ref (bad b 9), .int (gI S 12), .int (gI S 13), .int (gI S 14), .int (gI S 15), .int (gI S 16), .int (gI S 17), .int (gI S 18)])),
  (bad b 9, .inr (1, [.ref (bad b 31), .int (gI S 19), .int (gI S 20)])),
  (bad b 10, .inr (4, [.ref (bad b (gR S 0)), .ref (bad b (gR S 1))])),
  (bad b 11, .inr (1, [.ref (bad b 41), .int (gI S 21), .int (gI S 22)])),
  (bad b 12, .inr (11, [.long (gJ S 1), .int (gI S 23), .ref (bad b 49), .ref (bad b 50), .ref (bad b 51), .ref (bad b 52), .ref (bad b 53), .int (gI S 24), .ref (bad b 54), .ref (bad b 55), .ref (bad b 56), .int (gI S 25), .int (gI S 26), .int (gI S 27), .ref (bad b 57), .ref (bad b 58), .ref (bad b 59), .int (gI S 28), .ref (bad b 60), .ref (bad b 61), .ref (bad b 62), .ref (bad b 63), .int (gI S 29), .ref (bad b 64), .int (gI S 30), .int (gI S 31), .int (gI S 32), .long (gJ S 2), .int (gI S 33), .ref (bad b 65), .int (gI S 34), .ref (bad b 66), .int (gI S 35), .int (gI S 36), .int (gI S 37)])),
  (bad b 13, .inl (bcy b 1, 48, .inl (gA S 13))),
  (bad b 14, .inl (bcy b 1, 48, .inl (gA S 14))),
  (bad b 15, .inl (bcy b 1, 48, .inl (gA S 15))),
  (bad b 16, .inl (bcy b 1, 48, .inl (gA S 16))),
  (bad b 17, .inl (bcy b 1, 48, .inl (gA S 17))),
  (bad b 18, .inl (bcy b 1, 12, .inl (gA S 18))),
  (bad b 19, .inl (bcy b 1, 12, .inl (gA S 19))),
  (bad b 20, .inl (bcy b 3, 12, .inl (gA S 20))),
  (bad b 21, .inl (bcy b 1, 6, .inl (gA S 21))),
  (bad b 22, .inl (bcy b 1, 6, .inl (gA S 22))),
  (bad b 23, .inl (bcy b 1, 6, .inl (gA S 23))),
  (bad b 24, .inl (bcy b 0, 400, .inl (gA S 24))),
  (bad b 25, .inl (bcy b 4, 4, .inr (.inr (.inr (.inr (fun i => if i < 4 then some (bad b (26 + i)) else none)))))),
  (bad b 26, .inl (bcy b 1, 24, .inl (gA S 26))),
  (bad b 27, .inl (bcy b 1, 24, .inl (gA S 27))),
  (bad b 28, .inl (bcy b 1, 24, .inl (gA S 28))),
  (bad b 29, .inl (bcy b 1, 24, .inl (gA S 29))),
  (bad b 30, .inl (bcy b 1, 52, .inl (gA S 30))),
  (bad b 31, .inl (bcy b 4, 7, .inr (.inr (.inr (.inr (fun i => if i < 7 then some (bad b (32 + i)) else none)))))),
  (bad b 32, .inl (bcy b 1, 400, .inl (gA S 32))),
  (bad b 33, .inl (bcy b 1, 400, .inl (gA S 33))),
  (bad b 34, .inl (bcy b 1, 400, .inl (gA S 34))),
  (bad b 35, .inl (bcy b 1, 400, .inl (gA S 35))),
  (bad b 36, .inl (bcy b 1, 400, .inl (gA S 36))),
  (bad b 37, .inl (bcy b 1, 400, .inl (gA S 37))),
  (bad b 38, .inl (bcy b 1, 400, .inl (gA S 38))),
  (bad b 39, .inl (bcy b 2, 400, .inr (.inl (gL S 39)))),
  (bad b 40, .inl (bcy b 2, 400, .inr (.inl (gL S 40)))),
  (bad b 41, .inl (bcy b 4, 7, .inr (.inr (.inr (.inr (fun i => if i < 7 then some (bad b (42 + i)) else none)))))),
  (bad b 42, .inl (bcy b 1, 400, .inl (gA S 42))),
  (bad b 43, .inl (bcy b 1, 400, .inl (gA S 43))),
  (bad b 44, .inl (bcy b 1, 400, .inl (gA S 44))),
  (bad b 45, .inl (bcy b 1, 400, .inl (gA S 45))),
  (bad b 46, .inl (bcy b 1, 400, .inl (gA S 46))),
  (bad b 47, .inl (bcy b 1, 400, .inl (gA S 47))),
  (bad b 48, .inl (bcy b 1, 400, .inl (gA S 48))),
  (bad b 49, .inl (bcy b 1, 48, .inl (gA S 49))),
  (bad b 50, .inl (bcy b 1, 48, .inl (gA S 50))),
  (bad b 51, .inl (bcy b 1, 48, .inl (gA S 51))),
  (bad b 52, .inl (bcy b 1, 48, .inl (gA S 52))),
  (bad b 53, .inl (bcy b 1, 48, .inl (gA S 53))),
  (bad b 54, .inl (bcy b 1, 12, .inl (gA S 54))),
  (bad b 55, .inl (bcy b 1, 12, .inl (gA S 55))),
  (bad b 56, .inl (bcy b 3, 12, .inl (gA S 56))),
  (bad b 57, .inl (bcy b 1, 6, .inl (gA S 57))),
  (bad b 58, .inl (bcy b 1, 6, .inl (gA S 58))),
  (bad b 59, .inl (bcy b 1, 6, .inl (gA S 59))),
  (bad b 60, .inl (bcy b 1, 24, .inl (gA S 60))),
  (bad b 61, .inl (bcy b 1, 24, .inl (gA S 61))),
  (bad b 62, .inl (bcy b 1, 24, .inl (gA S 62))),
  (bad b 63, .inl (bcy b 1, 24, .inl (gA S 63))),
  (bad b 64, .inl (bcy b 1, 400, .inl (gA S 64))),
  (bad b 65, .inl (bcy b 1, 2400, .inl (gA S 65))),
  (bad b 66, .inl (bcy b 1, 2400, .inl (gA S 66)))]
theorem w_0 (b : Bw) (S : St) : (world b S)[0]? = some (bad b 0, .inr (10, [.long (gJ S 0), .ref (bad b 1), .ref (bad b 5), .ref (bad b 6), .ref (bad b 7), .ref (bad b 8), .ref (bad b 10), .ref (bad b 11)])) := rfl
theorem w_1 (b : Bw) (S : St) : (world b S)[1]? = some (bad b 1, .inr (8, [.ref (bad b 2), .ref (bad b 3), .ref (bad b 4), .int (gI S 0), .int (gI S 1)])) := rfl
theorem w_2 (b : Bw) (S : St) : (world b S)[2]? = some (bad b 2, .inr (3, [.ref (bad b 13), .ref (bad b 14), .ref (bad b 15), .ref (bad b 16), .ref (bad b 17), .int (gI S 2)])) := rfl
theorem w_3 (b : Bw) (S : St) : (world b S)[3]? = some (bad b 3, .inr (2, [.ref (bad b 18), .ref (bad b 19), .ref (bad b 20), .int (gI S 3)])) := rfl
theorem w_4 (b : Bw) (S : St) : (world b S)[4]? = some (bad b 4, .inr (0, [.ref (bad b 21), .ref (bad b 22), .ref (bad b 23), .int (gI S 4)])) := rfl
theorem w_5 (b : Bw) (S : St) : (world b S)[5]? = some (bad b 5, .inr (9, [.ref (bad b 24), .int (gI S 5)])) := rfl
theorem w_6 (b : Bw) (S : St) : (world b S)[6]? = some (bad b 6, .inr (7, [.ref (bad b 25), .ref (bad b 30), .int (gI S 6), .int (gI S 7)])) := rfl
theorem w_7 (b : Bw) (S : St) : (world b S)[7]? = some (bad b 7, .inr (6, [.int (gI S 8), .int (gI S 9), .int (gI S 10), .int (gI S 11)])) := rfl
theorem w_8 (b : Bw) (S : St) : (world b S)[8]? = some (bad b 8, .inr (5, [.ref (bad b 9), .int (gI S 12), .int (gI S 13), .int (gI S 14), .int (gI S 15), .int (gI S 16), .int (gI S 17), .int (gI S 18)])) := rfl
theorem w_9 (b : Bw) (S : St) : (world b S)[9]? = some (bad b 9, .inr (1, [.ref (bad b 31), .int (gI S 19), .int (gI S 20)])) := rfl
theorem w_10 (b : Bw) (S : St) : (world b S)[10]? = some (bad b 10, .inr (4, [.ref (bad b (gR S 0)), .ref (bad b (gR S 1))])) := rfl
theorem w_11 (b : Bw) (S : St) : (world b S)[11]? = some (bad b 11, .inr (1, [.ref (bad b 41), .int (gI S 21), .int (gI S 22)])) := rfl
theorem w_12 (b : Bw) (S : St) : (world b S)[12]? = some (bad b 12, .inr (11, [.long (gJ S 1), .int (gI S 23), .ref (bad b 49), .ref (bad b 50), .ref (bad b 51), .ref (bad b 52), .ref (bad b 53), .int (gI S 24), .ref (bad b 54), .ref (bad b 55), .ref (bad b 56), .int (gI S 25), .int (gI S 26), .int (gI S 27), .ref (bad b 57), .ref (bad b 58), .ref (bad b 59), .int (gI S 28), .ref (bad b 60), .ref (bad b 61), .ref (bad b 62), .ref (bad b 63), .int (gI S 29), .ref (bad b 64), .int (gI S 30), .int (gI S 31), .int (gI S 32), .long (gJ S 2), .int (gI S 33), .ref (bad b 65), .int (gI S 34), .ref (bad b 66), .int (gI S 35), .int (gI S 36), .int (gI S 37)])) := rfl
theorem w_13 (b : Bw) (S : St) : (world b S)[13]? = some (bad b 13, .inl (bcy b 1, 48, .inl (gA S 13))) := rfl
theorem w_14 (b : Bw) (S : St) : (world b S)[14]? = some (bad b 14, .inl (bcy b 1, 48, .inl (gA S 14))) := rfl
theorem w_15 (b : Bw) (S : St) : (world b S)[15]? = some (bad b 15, .inl (bcy b 1, 48, .inl (gA S 15))) := rfl
theorem w_16 (b : Bw) (S : St) : (world b S)[16]? = some (bad b 16, .inl (bcy b 1, 48, .inl (gA S 16))) := rfl
theorem w_17 (b : Bw) (S : St) : (world b S)[17]? = some (bad b 17, .inl (bcy b 1, 48, .inl (gA S 17))) := rfl
theorem w_18 (b : Bw) (S : St) : (world b S)[18]? = some (bad b 18, .inl (bcy b 1, 12, .inl (gA S 18))) := rfl
theorem w_19 (b : Bw) (S : St) : (world b S)[19]? = some (bad b 19, .inl (bcy b 1, 12, .inl (gA S 19))) := rfl
theorem w_20 (b : Bw) (S : St) : (world b S)[20]? = some (bad b 20, .inl (bcy b 3, 12, .inl (gA S 20))) := rfl
theorem w_21 (b : Bw) (S : St) : (world b S)[21]? = some (bad b 21, .inl (bcy b 1, 6, .inl (gA S 21))) := rfl
theorem w_22 (b : Bw) (S : St) : (world b S)[22]? = some (bad b 22, .inl (bcy b 1, 6, .inl (gA S 22))) := rfl
theorem w_23 (b : Bw) (S : St) : (world b S)[23]? = some (bad b 23, .inl (bcy b 1, 6, .inl (gA S 23))) := rfl
theorem w_24 (b : Bw) (S : St) : (world b S)[24]? = some (bad b 24, .inl (bcy b 0, 400, .inl (gA S 24))) := rfl
theorem w_25 (b : Bw) (S : St) : (world b S)[25]? = some (bad b 25, .inl (bcy b 4, 4, .inr (.inr (.inr (.inr (fun i => if i < 4 then some (bad b (26 + i)) else none)))))) := rfl
theorem w_26 (b : Bw) (S : St) : (world b S)[26]? = some (bad b 26, .inl (bcy b 1, 24, .inl (gA S 26))) := rfl
theorem w_27 (b : Bw) (S : St) : (world b S)[27]? = some (bad b 27, .inl (bcy b 1, 24, .inl (gA S 27))) := rfl
theorem w_28 (b : Bw) (S : St) : (world b S)[28]? = some (bad b 28, .inl (bcy b 1, 24, .inl (gA S 28))) := rfl
theorem w_29 (b : Bw) (S : St) : (world b S)[29]? = some (bad b 29, .inl (bcy b 1, 24, .inl (gA S 29))) := rfl
theorem w_30 (b : Bw) (S : St) : (world b S)[30]? = some (bad b 30, .inl (bcy b 1, 52, .inl (gA S 30))) := rfl
theorem w_31 (b : Bw) (S : St) : (world b S)[31]? = some (bad b 31, .inl (bcy b 4, 7, .inr (.inr (.inr (.inr (fun i => if i < 7 then some (bad b (32 + i)) else none)))))) := rfl
theorem w_32 (b : Bw) (S : St) : (world b S)[32]? = some (bad b 32, .inl (bcy b 1, 400, .inl (gA S 32))) := rfl
theorem w_33 (b : Bw) (S : St) : (world b S)[33]? = some (bad b 33, .inl (bcy b 1, 400, .inl (gA S 33))) := rfl
theorem w_34 (b : Bw) (S : St) : (world b S)[34]? = some (bad b 34, .inl (bcy b 1, 400, .inl (gA S 34))) := rfl
theorem w_35 (b : Bw) (S : St) : (world b S)[35]? = some (bad b 35, .inl (bcy b 1, 400, .inl (gA S 35))) := rfl
theorem w_36 (b : Bw) (S : St) : (world b S)[36]? = some (bad b 36, .inl (bcy b 1, 400, .inl (gA S 36))) := rfl
theorem w_37 (b : Bw) (S : St) : (world b S)[37]? = some (bad b 37, .inl (bcy b 1, 400, .inl (gA S 37))) := rfl
theorem w_38 (b : Bw) (S : St) : (world b S)[38]? = some (bad b 38, .inl (bcy b 1, 400, .inl (gA S 38))) := rfl
theorem w_39 (b : Bw) (S : St) : (world b S)[39]? = some (bad b 39, .inl (bcy b 2, 400, .inr (.inl (gL S 39)))) := rfl
theorem w_40 (b : Bw) (S : St) : (world b S)[40]? = some (bad b 40, .inl (bcy b 2, 400, .inr (.inl (gL S 40)))) := rfl
theorem w_41 (b : Bw) (S : St) : (world b S)[41]? = some (bad b 41, .inl (bcy b 4, 7, .inr (.inr (.inr (.inr (fun i => if i < 7 then some (bad b (42 + i)) else none)))))) := rfl
theorem w_42 (b : Bw) (S : St) : (world b S)[42]? = some (bad b 42, .inl (bcy b 1, 400, .inl (gA S 42))) := rfl
theorem w_43 (b : Bw) (S : St) : (world b S)[43]? = some (bad b 43, .inl (bcy b 1, 400, .inl (gA S 43))) := rfl
theorem w_44 (b : Bw) (S : St) : (world b S)[44]? = some (bad b 44, .inl (bcy b 1, 400, .inl (gA S 44))) := rfl
theorem w_45 (b : Bw) (S : St) : (world b S)[45]? = some (bad b 45, .inl (bcy b 1, 400, .inl (gA S 45))) := rfl
theorem w_46 (b : Bw) (S : St) : (world b S)[46]? = some (bad b 46, .inl (bcy b 1, 400, .inl (gA S 46))) := rfl
theorem w_47 (b : Bw) (S : St) : (world b S)[47]? = some (bad b 47, .inl (bcy b 1, 400, .inl (gA S 47))) := rfl
theorem w_48 (b : Bw) (S : St) : (world b S)[48]? = some (bad b 48, .inl (bcy b 1, 400, .inl (gA S 48))) := rfl
theorem w_49 (b : Bw) (S : St) : (world b S)[49]? = some (bad b 49, .inl (bcy b 1, 48, .inl (gA S 49))) := rfl
theorem w_50 (b : Bw) (S : St) : (world b S)[50]? = some (bad b 50, .inl (bcy b 1, 48, .inl (gA S 50))) := rfl
theorem w_51 (b : Bw) (S : St) : (world b S)[51]? = some (bad b 51, .inl (bcy b 1, 48, .inl (gA S 51))) := rfl
theorem w_52 (b : Bw) (S : St) : (world b S)[52]? = some (bad b 52, .inl (bcy b 1, 48, .inl (gA S 52))) := rfl
theorem w_53 (b : Bw) (S : St) : (world b S)[53]? = some (bad b 53, .inl (bcy b 1, 48, .inl (gA S 53))) := rfl
theorem w_54 (b : Bw) (S : St) : (world b S)[54]? = some (bad b 54, .inl (bcy b 1, 12, .inl (gA S 54))) := rfl
theorem w_55 (b : Bw) (S : St) : (world b S)[55]? = some (bad b 55, .inl (bcy b 1, 12, .inl (gA S 55))) := rfl
theorem w_56 (b : Bw) (S : St) : (world b S)[56]? = some (bad b 56, .inl (bcy b 3, 12, .inl (gA S 56))) := rfl
theorem w_57 (b : Bw) (S : St) : (world b S)[57]? = some (bad b 57, .inl (bcy b 1, 6, .inl (gA S 57))) := rfl
theorem w_58 (b : Bw) (S : St) : (world b S)[58]? = some (bad b 58, .inl (bcy b 1, 6, .inl (gA S 58))) := rfl
theorem w_59 (b : Bw) (S : St) : (world b S)[59]? = some (bad b 59, .inl (bcy b 1, 6, .inl (gA S 59))) := rfl
theorem w_60 (b : Bw) (S : St) : (world b S)[60]? = some (bad b 60, .inl (bcy b 1, 24, .inl (gA S 60))) := rfl
theorem w_61 (b : Bw) (S : St) : (world b S)[61]? = some (bad b 61, .inl (bcy b 1, 24, .inl (gA S 61))) := rfl
theorem w_62 (b : Bw) (S : St) : (world b S)[62]? = some (bad b 62, .inl (bcy b 1, 24, .inl (gA S 62))) := rfl
theorem w_63 (b : Bw) (S : St) : (world b S)[63]? = some (bad b 63, .inl (bcy b 1, 24, .inl (gA S 63))) := rfl
theorem w_64 (b : Bw) (S : St) : (world b S)[64]? = some (bad b 64, .inl (bcy b 1, 400, .inl (gA S 64))) := rfl
theorem w_65 (b : Bw) (S : St) : (world b S)[65]? = some (bad b 65, .inl (bcy b 1, 2400, .inl (gA S 65))) := rfl
theorem w_66 (b : Bw) (S : St) : (world b S)[66]? = some (bad b 66, .inl (bcy b 1, 2400, .inl (gA S 66))) := rfl
theorem world_len (b : Bw) (S : St) : (world b S).length = nW := rfl
theorem world_fst (b : Bw) (S : St) : (world b S).map Prod.fst = (List.range nW).map (bad b) := rfl
theorem ws_1_3 (b : Bw) (S : St) (x : Int32) : (world b S).set 1 (bad b 1, .inr (8, ([.ref (bad b 2), .ref (bad b 3), .ref (bad b 4), .int (gI S 0), .int (gI S 1)] : List Value).set 3 (.int x))) = world b (pI S 0 x) := rfl
theorem ws_1_4 (b : Bw) (S : St) (x : Int32) : (world b S).set 1 (bad b 1, .inr (8, ([.ref (bad b 2), .ref (bad b 3), .ref (bad b 4), .int (gI S 0), .int (gI S 1)] : List Value).set 4 (.int x))) = world b (pI S 1 x) := rfl
theorem ws_2_5 (b : Bw) (S : St) (x : Int32) : (world b S).set 2 (bad b 2, .inr (3, ([.ref (bad b 13), .ref (bad b 14), .ref (bad b 15), .ref (bad b 16), .ref (bad b 17), .int (gI S 2)] : List Value).set 5 (.int x))) = world b (pI S 2 x) := rfl
theorem ws_3_3 (b : Bw) (S : St) (x : Int32) : (world b S).set 3 (bad b 3, .inr (2, ([.ref (bad b 18), .ref (bad b 19), .ref (bad b 20), .int (gI S 3)] : List Value).set 3 (.int x))) = world b (pI S 3 x) := rfl
theorem ws_4_3 (b : Bw) (S : St) (x : Int32) : (world b S).set 4 (bad b 4, .inr (0, ([.ref (bad b 21), .ref (bad b 22), .ref (bad b 23), .int (gI S 4)] : List Value).set 3 (.int x))) = world b (pI S 4 x) := rfl
theorem ws_5_1 (b : Bw) (S : St) (x : Int32) : (world b S).set 5 (bad b 5, .inr (9, ([.ref (bad b 24), .int (gI S 5)] : List Value).set 1 (.int x))) = world b (pI S 5 x) := rfl
theorem ws_6_2 (b : Bw) (S : St) (x : Int32) : (world b S).set 6 (bad b 6, .inr (7, ([.ref (bad b 25), .ref (bad b 30), .int (gI S 6), .int (gI S 7)] : List Value).set 2 (.int x))) = world b (pI S 6 x) := rfl
theorem ws_6_3 (b : Bw) (S : St) (x : Int32) : (world b S).set 6 (bad b 6, .inr (7, ([.ref (bad b 25), .ref (bad b 30), .int (gI S 6), .int (gI S 7)] : List Value).set 3 (.int x))) = world b (pI S 7 x) := rfl
theorem ws_7_0 (b : Bw) (S : St) (x : Int32) : (world b S).set 7 (bad b 7, .inr (6, ([.int (gI S 8), .int (gI S 9), .int (gI S 10), .int (gI S 11)] : List Value).set 0 (.int x))) = world b (pI S 8 x) := rfl
theorem ws_7_1 (b : Bw) (S : St) (x : Int32) : (world b S).set 7 (bad b 7, .inr (6, ([.int (gI S 8), .int (gI S 9), .int (gI S 10), .int (gI S 11)] : List Value).set 1 (.int x))) = world b (pI S 9 x) := rfl
theorem ws_7_2 (b : Bw) (S : St) (x : Int32) : (world b S).set 7 (bad b 7, .inr (6, ([.int (gI S 8), .int (gI S 9), .int (gI S 10), .int (gI S 11)] : List Value).set 2 (.int x))) = world b (pI S 10 x) := rfl
theorem ws_7_3 (b : Bw) (S : St) (x : Int32) : (world b S).set 7 (bad b 7, .inr (6, ([.int (gI S 8), .int (gI S 9), .int (gI S 10), .int (gI S 11)] : List Value).set 3 (.int x))) = world b (pI S 11 x) := rfl
theorem ws_8_1 (b : Bw) (S : St) (x : Int32) : (world b S).set 8 (bad b 8, .inr (5, ([.ref (bad b 9), .int (gI S 12), .int (gI S 13), .int (gI S 14), .int (gI S 15), .int (gI S 16), .int (gI S 17), .int (gI S 18)] : List Value).set 1 (.int x))) = world b (pI S 12 x) := rfl
theorem ws_8_2 (b : Bw) (S : St) (x : Int32) : (world b S).set 8 (bad b 8, .inr (5, ([.ref (bad b 9), .int (gI S 12), .int (gI S 13), .int (gI S 14), .int (gI S 15), .int (gI S 16), .int (gI S 17), .int (gI S 18)] : List Value).set 2 (.int x))) = world b (pI S 13 x) := rfl
theorem ws_8_3 (b : Bw) (S : St) (x : Int32) : (world b S).set 8 (bad b 8, .inr (5, ([.ref (bad b 9), .int (gI S 12), .int (gI S 13), .int (gI S 14), .int (gI S 15), .int (gI S 16), .int (gI S 17), .int (gI S 18)] : List Value).set 3 (.int x))) = world b (pI S 14 x) := rfl
theorem ws_8_4 (b : Bw) (S : St) (x : Int32) : (world b S).set 8 (bad b 8, .inr (5, ([.ref (bad b 9), .int (gI S 12), .int (gI S 13), .int (gI S 14), .int (gI S 15), .int (gI S 16), .int (gI S 17), .int (gI S 18)] : List Value).set 4 (.int x))) = world b (pI S 15 x) := rfl
theorem ws_8_5 (b : Bw) (S : St) (x : Int32) : (world b S).set 8 (bad b 8, .inr (5, ([.ref (bad b 9), .int (gI S 12), .int (gI S 13), .int (gI S 14), .int (gI S 15), .int (gI S 16), .int (gI S 17), .int (gI S 18)] : List Value).set 5 (.int x))) = world b (pI S 16 x) := rfl
theorem ws_8_6 (b : Bw) (S : St) (x : Int32) : (world b S).set 8 (bad b 8, .inr (5, ([.ref (bad b 9), .int (gI S 12), .int (gI S 13), .int (gI S 14), .int (gI S 15), .int (gI S 16), .int (gI S 17), .int (gI S 18)] : List Value).set 6 (.int x))) = world b (pI S 17 x) := rfl
theorem ws_8_7 (b : Bw) (S : St) (x : Int32) : (world b S).set 8 (bad b 8, .inr (5, ([.ref (bad b 9), .int (gI S 12), .int (gI S 13), .int (gI S 14), .int (gI S 15), .int (gI S 16), .int (gI S 17), .int (gI S 18)] : List Value).set 7 (.int x))) = world b (pI S 18 x) := rfl
theorem ws_9_1 (b : Bw) (S : St) (x : Int32) : (world b S).set 9 (bad b 9, .inr (1, ([.ref (bad b 31), .int (gI S 19), .int (gI S 20)] : List Value).set 1 (.int x))) = world b (pI S 19 x) := rfl
theorem ws_9_2 (b : Bw) (S : St) (x : Int32) : (world b S).set 9 (bad b 9, .inr (1, ([.ref (bad b 31), .int (gI S 19), .int (gI S 20)] : List Value).set 2 (.int x))) = world b (pI S 20 x) := rfl
theorem ws_10_0 (b : Bw) (S : St) (x : Nat) : (world b S).set 10 (bad b 10, .inr (4, ([.ref (bad b (gR S 0)), .ref (bad b (gR S 1))] : List Value).set 0 (.ref (bad b x)))) = world b (pR S 0 x) := rfl
theorem ws_10_1 (b : Bw) (S : St) (x : Nat) : (world b S).set 10 (bad b 10, .inr (4, ([.ref (bad b (gR S 0)), .ref (bad b (gR S 1))] : List Value).set 1 (.ref (bad b x)))) = world b (pR S 1 x) := rfl
theorem ws_11_1 (b : Bw) (S : St) (x : Int32) : (world b S).set 11 (bad b 11, .inr (1, ([.ref (bad b 41), .int (gI S 21), .int (gI S 22)] : List Value).set 1 (.int x))) = world b (pI S 21 x) := rfl
theorem ws_11_2 (b : Bw) (S : St) (x : Int32) : (world b S).set 11 (bad b 11, .inr (1, ([.ref (bad b 41), .int (gI S 21), .int (gI S 22)] : List Value).set 2 (.int x))) = world b (pI S 22 x) := rfl
theorem ws_12_1 (b : Bw) (S : St) (x : Int32) : (world b S).set 12 (bad b 12, .inr (11, ([.long (gJ S 1), .int (gI S 23), .ref (bad b 49), .ref (bad b 50), .ref (bad b 51), .ref (bad b 52), .ref (bad b 53), .int (gI S 24), .ref (bad b 54), .ref (bad b 55), .ref (bad b 56), .int (gI S 25), .int (gI S 26), .int (gI S 27), .ref (bad b 57), .ref (bad b 58), .ref (bad b 59), .int (gI S 28), .ref (bad b 60), .ref (bad b 61), .ref (bad b 62), .ref (bad b 63), .int (gI S 29), .ref (bad b 64), .int (gI S 30), .int (gI S 31), .int (gI S 32), .long (gJ S 2), .int (gI S 33), .ref (bad b 65), .int (gI S 34), .ref (bad b 66), .int (gI S 35), .int (gI S 36), .int (gI S 37)] : List Value).set 1 (.int x))) = world b (pI S 23 x) := rfl
theorem ws_12_7 (b : Bw) (S : St) (x : Int32) : (world b S).set 12 (bad b 12, .inr (11, ([.long (gJ S 1), .int (gI S 23), .ref (bad b 49), .ref (bad b 50), .ref (bad b 51), .ref (bad b 52), .ref (bad b 53), .int (gI S 24), .ref (bad b 54), .ref (bad b 55), .ref (bad b 56), .int (gI S 25), .int (gI S 26), .int (gI S 27), .ref (bad b 57), .ref (bad b 58), .ref (bad b 59), .int (gI S 28), .ref (bad b 60), .ref (bad b 61), .ref (bad b 62), .ref (bad b 63), .int (gI S 29), .ref (bad b 64), .int (gI S 30), .int (gI S 31), .int (gI S 32), .long (gJ S 2), .int (gI S 33), .ref (bad b 65), .int (gI S 34), .ref (bad b 66), .int (gI S 35), .int (gI S 36), .int (gI S 37)] : List Value).set 7 (.int x))) = world b (pI S 24 x) := rfl
theorem ws_12_11 (b : Bw) (S : St) (x : Int32) : (world b S).set 12 (bad b 12, .inr (11, ([.long (gJ S 1), .int (gI S 23), .ref (bad b 49), .ref (bad b 50), .ref (bad b 51), .ref (bad b 52), .ref (bad b 53), .int (gI S 24), .ref (bad b 54), .ref (bad b 55), .ref (bad b 56), .int (gI S 25), .int (gI S 26), .int (gI S 27), .ref (bad b 57), .ref (bad b 58), .ref (bad b 59), .int (gI S 28), .ref (bad b 60), .ref (bad b 61), .ref (bad b 62), .ref (bad b 63), .int (gI S 29), .ref (bad b 64), .int (gI S 30), .int (gI S 31), .int (gI S 32), .long (gJ S 2), .int (gI S 33), .ref (bad b 65), .int (gI S 34), .ref (bad b 66), .int (gI S 35), .int (gI S 36), .int (gI S 37)] : List Value).set 11 (.int x))) = world b (pI S 25 x) := rfl
theorem ws_12_12 (b : Bw) (S : St) (x : Int32) : (world b S).set 12 (bad b 12, .inr (11, ([.long (gJ S 1), .int (gI S 23), .ref (bad b 49), .ref (bad b 50), .ref (bad b 51), .ref (bad b 52), .ref (bad b 53), .int (gI S 24), .ref (bad b 54), .ref (bad b 55), .ref (bad b 56), .int (gI S 25), .int (gI S 26), .int (gI S 27), .ref (bad b 57), .ref (bad b 58), .ref (bad b 59), .int (gI S 28), .ref (bad b 60), .ref (bad b 61), .ref (bad b 62), .ref (bad b 63), .int (gI S 29), .ref (bad b 64), .int (gI S 30), .int (gI S 31), .int (gI S 32), .long (gJ S 2), .int (gI S 33), .ref (bad b 65), .int (gI S 34), .ref (bad b 66), .int (gI S 35), .int (gI S 36), .int (gI S 37)] : List Value).set 12 (.int x))) = world b (pI S 26 x) := rfl
theorem ws_12_13 (b : Bw) (S : St) (x : Int32) : (world b S).set 12 (bad b 12, .inr (11, ([.long (gJ S 1), .int (gI S 23), .ref (bad b 49), .ref (bad b 50), .ref (bad b 51), .ref (bad b 52), .ref (bad b 53), .int (gI S 24), .ref (bad b 54), .ref (bad b 55), .ref (bad b 56), .int (gI S 25), .int (gI S 26), .int (gI S 27), .ref (bad b 57), .ref (bad b 58), .ref (bad b 59), .int (gI S 28), .ref (bad b 60), .ref (bad b 61), .ref (bad b 62), .ref (bad b 63), .int (gI S 29), .ref (bad b 64), .int (gI S 30), .int (gI S 31), .int (gI S 32), .long (gJ S 2), .int (gI S 33), .ref (bad b 65), .int (gI S 34), .ref (bad b 66), .int (gI S 35), .int (gI S 36), .int (gI S 37)] : List Value).set 13 (.int x))) = world b (pI S 27 x) := rfl
theorem ws_12_17 (b : Bw) (S : St) (x : Int32) : (world b S).set 12 (bad b 12, .inr (11, ([.long (gJ S 1), .int (gI S 23), .ref (bad b 49), .ref (bad b 50), .ref (bad b 51), .ref (bad b 52), .ref (bad b 53), .int (gI S 24), .ref (bad b 54), .ref (bad b 55), .ref (bad b 56), .int (gI S 25), .int (gI S 26), .int (gI S 27), .ref (bad b 57), .ref (bad b 58), .ref (bad b 59), .int (gI S 28), .ref (bad b 60), .ref (bad b 61), .ref (bad b 62), .ref (bad b 63), .int (gI S 29), .ref (bad b 64), .int (gI S 30), .int (gI S 31), .int (gI S 32), .long (gJ S 2), .int (gI S 33), .ref (bad b 65), .int (gI S 34), .ref (bad b 66), .int (gI S 35), .int (gI S 36), .int (gI S 37)] : List Value).set 17 (.int x))) = world b (pI S 28 x) := rfl
theorem ws_12_22 (b : Bw) (S : St) (x : Int32) : (world b S).set 12 (bad b 12, .inr (11, ([.long (gJ S 1), .int (gI S 23), .ref (bad b 49), .ref (bad b 50), .ref (bad b 51), .ref (bad b 52), .ref (bad b 53), .int (gI S 24), .ref (bad b 54), .ref (bad b 55), .ref (bad b 56), .int (gI S 25), .int (gI S 26), .int (gI S 27), .ref (bad b 57), .ref (bad b 58), .ref (bad b 59), .int (gI S 28), .ref (bad b 60), .ref (bad b 61), .ref (bad b 62), .ref (bad b 63), .int (gI S 29), .ref (bad b 64), .int (gI S 30), .int (gI S 31), .int (gI S 32), .long (gJ S 2), .int (gI S 33), .ref (bad b 65), .int (gI S 34), .ref (bad b 66), .int (gI S 35), .int (gI S 36), .int (gI S 37)] : List Value).set 22 (.int x))) = world b (pI S 29 x) := rfl
theorem ws_12_24 (b : Bw) (S : St) (x : Int32) : (world b S).set 12 (bad b 12, .inr (11, ([.long (gJ S 1), .int (gI S 23), .ref (bad b 49), .ref (bad b 50), .ref (bad b 51), .ref (bad b 52), .ref (bad b 53), .int (gI S 24), .ref (bad b 54), .ref (bad b 55), .ref (bad b 56), .int (gI S 25), .int (gI S 26), .int (gI S 27), .ref (bad b 57), .ref (bad b 58), .ref (bad b 59), .int (gI S 28), .ref (bad b 60), .ref (bad b 61), .ref (bad b 62), .ref (bad b 63), .int (gI S 29), .ref (bad b 64), .int (gI S 30), .int (gI S 31), .int (gI S 32), .long (gJ S 2), .int (gI S 33), .ref (bad b 65), .int (gI S 34), .ref (bad b 66), .int (gI S 35), .int (gI S 36), .int (gI S 37)] : List Value).set 24 (.int x))) = world b (pI S 30 x) := rfl
theorem ws_12_25 (b : Bw) (S : St) (x : Int32) : (world b S).set 12 (bad b 12, .inr (11, ([.long (gJ S 1), .int (gI S 23), .ref (bad b 49), .ref (bad b 50), .ref (bad b 51), .ref (bad b 52), .ref (bad b 53), .int (gI S 24), .ref (bad b 54), .ref (bad b 55), .ref (bad b 56), .int (gI S 25), .int (gI S 26), .int (gI S 27), .ref (bad b 57), .ref (bad b 58), .ref (bad b 59), .int (gI S 28), .ref (bad b 60), .ref (bad b 61), .ref (bad b 62), .ref (bad b 63), .int (gI S 29), .ref (bad b 64), .int (gI S 30), .int (gI S 31), .int (gI S 32), .long (gJ S 2), .int (gI S 33), .ref (bad b 65), .int (gI S 34), .ref (bad b 66), .int (gI S 35), .int (gI S 36), .int (gI S 37)] : List Value).set 25 (.int x))) = world b (pI S 31 x) := rfl
theorem ws_12_26 (b : Bw) (S : St) (x : Int32) : (world b S).set 12 (bad b 12, .inr (11, ([.long (gJ S 1), .int (gI S 23), .ref (bad b 49), .ref (bad b 50), .ref (bad b 51), .ref (bad b 52), .ref (bad b 53), .int (gI S 24), .ref (bad b 54), .ref (bad b 55), .ref (bad b 56), .int (gI S 25), .int (gI S 26), .int (gI S 27), .ref (bad b 57), .ref (bad b 58), .ref (bad b 59), .int (gI S 28), .ref (bad b 60), .ref (bad b 61), .ref (bad b 62), .ref (bad b 63), .int (gI S 29), .ref (bad b 64), .int (gI S 30), .int (gI S 31), .int (gI S 32), .long (gJ S 2), .int (gI S 33), .ref (bad b 65), .int (gI S 34), .ref (bad b 66), .int (gI S 35), .int (gI S 36), .int (gI S 37)] : List Value).set 26 (.int x))) = world b (pI S 32 x) := rfl
theorem ws_12_27 (b : Bw) (S : St) (x : Int64) : (world b S).set 12 (bad b 12, .inr (11, ([.long (gJ S 1), .int (gI S 23), .ref (bad b 49), .ref (bad b 50), .ref (bad b 51), .ref (bad b 52), .ref (bad b 53), .int (gI S 24), .ref (bad b 54), .ref (bad b 55), .ref (bad b 56), .int (gI S 25), .int (gI S 26), .int (gI S 27), .ref (bad b 57), .ref (bad b 58), .ref (bad b 59), .int (gI S 28), .ref (bad b 60), .ref (bad b 61), .ref (bad b 62), .ref (bad b 63), .int (gI S 29), .ref (bad b 64), .int (gI S 30), .int (gI S 31), .int (gI S 32), .long (gJ S 2), .int (gI S 33), .ref (bad b 65), .int (gI S 34), .ref (bad b 66), .int (gI S 35), .int (gI S 36), .int (gI S 37)] : List Value).set 27 (.long x))) = world b (pJ S 2 x) := rfl
theorem ws_12_28 (b : Bw) (S : St) (x : Int32) : (world b S).set 12 (bad b 12, .inr (11, ([.long (gJ S 1), .int (gI S 23), .ref (bad b 49), .ref (bad b 50), .ref (bad b 51), .ref (bad b 52), .ref (bad b 53), .int (gI S 24), .ref (bad b 54), .ref (bad b 55), .ref (bad b 56), .int (gI S 25), .int (gI S 26), .int (gI S 27), .ref (bad b 57), .ref (bad b 58), .ref (bad b 59), .int (gI S 28), .ref (bad b 60), .ref (bad b 61), .ref (bad b 62), .ref (bad b 63), .int (gI S 29), .ref (bad b 64), .int (gI S 30), .int (gI S 31), .int (gI S 32), .long (gJ S 2), .int (gI S 33), .ref (bad b 65), .int (gI S 34), .ref (bad b 66), .int (gI S 35), .int (gI S 36), .int (gI S 37)] : List Value).set 28 (.int x))) = world b (pI S 33 x) := rfl
theorem ws_12_30 (b : Bw) (S : St) (x : Int32) : (world b S).set 12 (bad b 12, .inr (11, ([.long (gJ S 1), .int (gI S 23), .ref (bad b 49), .ref (bad b 50), .ref (bad b 51), .ref (bad b 52), .ref (bad b 53), .int (gI S 24), .ref (bad b 54), .ref (bad b 55), .ref (bad b 56), .int (gI S 25), .int (gI S 26), .int (gI S 27), .ref (bad b 57), .ref (bad b 58), .ref (bad b 59), .int (gI S 28), .ref (bad b 60), .ref (bad b 61), .ref (bad b 62), .ref (bad b 63), .int (gI S 29), .ref (bad b 64), .int (gI S 30), .int (gI S 31), .int (gI S 32), .long (gJ S 2), .int (gI S 33), .ref (bad b 65), .int (gI S 34), .ref (bad b 66), .int (gI S 35), .int (gI S 36), .int (gI S 37)] : List Value).set 30 (.int x))) = world b (pI S 34 x) := rfl
theorem ws_12_32 (b : Bw) (S : St) (x : Int32) : (world b S).set 12 (bad b 12, .inr (11, ([.long (gJ S 1), .int (gI S 23), .ref (bad b 49), .ref (bad b 50), .ref (bad b 51), .ref (bad b 52), .ref (bad b 53), .int (gI S 24), .ref (bad b 54), .ref (bad b 55), .ref (bad b 56), .int (gI S 25), .int (gI S 26), .int (gI S 27), .ref (bad b 57), .ref (bad b 58), .ref (bad b 59), .int (gI S 28), .ref (bad b 60), .ref (bad b 61), .ref (bad b 62), .ref (bad b 63), .int (gI S 29), .ref (bad b 64), .int (gI S 30), .int (gI S 31), .int (gI S 32), .long (gJ S 2), .int (gI S 33), .ref (bad b 65), .int (gI S 34), .ref (bad b 66), .int (gI S 35), .int (gI S 36), .int (gI S 37)] : List Value).set 32 (.int x))) = world b (pI S 35 x) := rfl
theorem ws_12_33 (b : Bw) (S : St) (x : Int32) : (world b S).set 12 (bad b 12, .inr (11, ([.long (gJ S 1), .int (gI S 23), .ref (bad b 49), .ref (bad b 50), .ref (bad b 51), .ref (bad b 52), .ref (bad b 53), .int (gI S 24), .ref (bad b 54), .ref (bad b 55), .ref (bad b 56), .int (gI S 25), .int (gI S 26), .int (gI S 27), .ref (bad b 57), .ref (bad b 58), .ref (bad b 59), .int (gI S 28), .ref (bad b 60), .ref (bad b 61), .ref (bad b 62), .ref (bad b 63), .int (gI S 29), .ref (bad b 64), .int (gI S 30), .int (gI S 31), .int (gI S 32), .long (gJ S 2), .int (gI S 33), .ref (bad b 65), .int (gI S 34), .ref (bad b 66), .int (gI S 35), .int (gI S 36), .int (gI S 37)] : List Value).set 33 (.int x))) = world b (pI S 36 x) := rfl
theorem ws_12_34 (b : Bw) (S : St) (x : Int32) : (world b S).set 12 (bad b 12, .inr (11, ([.long (gJ S 1), .int (gI S 23), .ref (bad b 49), .ref (bad b 50), .ref (bad b 51), .ref (bad b 52), .ref (bad b 53), .int (gI S 24), .ref (bad b 54), .ref (bad b 55), .ref (bad b 56), .int (gI S 25), .int (gI S 26), .int (gI S 27), .ref (bad b 57), .ref (bad b 58), .ref (bad b 59), .int (gI S 28), .ref (bad b 60), .ref (bad b 61), .ref (bad b 62), .ref (bad b 63), .int (gI S 29), .ref (bad b 64), .int (gI S 30), .int (gI S 31), .int (gI S 32), .long (gJ S 2), .int (gI S 33), .ref (bad b 65), .int (gI S 34), .ref (bad b 66), .int (gI S 35), .int (gI S 36), .int (gI S 37)] : List Value).set 34 (.int x))) = world b (pI S 37 x) := rfl
theorem ws_13 (b : Bw) (S : St) (f : Nat → Int32) : (world b S).set 13 (bad b 13, .inl (bcy b 1, 48, .inl f)) = world b (pA S 13 f) := rfl
theorem ws_14 (b : Bw) (S : St) (f : Nat → Int32) : (world b S).set 14 (bad b 14, .inl (bcy b 1, 48, .inl f)) = world b (pA S 14 f) := rfl
theorem ws_15 (b : Bw) (S : St) (f : Nat → Int32) : (world b S).set 15 (bad b 15, .inl (bcy b 1, 48, .inl f)) = world b (pA S 15 f) := rfl
theorem ws_16 (b : Bw) (S : St) (f : Nat → Int32) : (world b S).set 16 (bad b 16, .inl (bcy b 1, 48, .inl f)) = world b (pA S 16 f) := rfl
theorem ws_17 (b : Bw) (S : St) (f : Nat → Int32) : (world b S).set 17 (bad b 17, .inl (bcy b 1, 48, .inl f)) = world b (pA S 17 f) := rfl
theorem ws_18 (b : Bw) (S : St) (f : Nat → Int32) : (world b S).set 18 (bad b 18, .inl (bcy b 1, 12, .inl f)) = world b (pA S 18 f) := rfl
theorem ws_19 (b : Bw) (S : St) (f : Nat → Int32) : (world b S).set 19 (bad b 19, .inl (bcy b 1, 12, .inl f)) = world b (pA S 19 f) := rfl
theorem ws_20 (b : Bw) (S : St) (f : Nat → Int32) : (world b S).set 20 (bad b 20, .inl (bcy b 3, 12, .inl f)) = world b (pA S 20 f) := rfl
theorem ws_21 (b : Bw) (S : St) (f : Nat → Int32) : (world b S).set 21 (bad b 21, .inl (bcy b 1, 6, .inl f)) = world b (pA S 21 f) := rfl
theorem ws_22 (b : Bw) (S : St) (f : Nat → Int32) : (world b S).set 22 (bad b 22, .inl (bcy b 1, 6, .inl f)) = world b (pA S 22 f) := rfl
theorem ws_23 (b : Bw) (S : St) (f : Nat → Int32) : (world b S).set 23 (bad b 23, .inl (bcy b 1, 6, .inl f)) = world b (pA S 23 f) := rfl
theorem ws_24 (b : Bw) (S : St) (f : Nat → Int32) : (world b S).set 24 (bad b 24, .inl (bcy b 0, 400, .inl f)) = world b (pA S 24 f) := rfl
theorem ws_26 (b : Bw) (S : St) (f : Nat → Int32) : (world b S).set 26 (bad b 26, .inl (bcy b 1, 24, .inl f)) = world b (pA S 26 f) := rfl
theorem ws_27 (b : Bw) (S : St) (f : Nat → Int32) : (world b S).set 27 (bad b 27, .inl (bcy b 1, 24, .inl f)) = world b (pA S 27 f) := rfl
theorem ws_28 (b : Bw) (S : St) (f : Nat → Int32) : (world b S).set 28 (bad b 28, .inl (bcy b 1, 24, .inl f)) = world b (pA S 28 f) := rfl
theorem ws_29 (b : Bw) (S : St) (f : Nat → Int32) : (world b S).set 29 (bad b 29, .inl (bcy b 1, 24, .inl f)) = world b (pA S 29 f) := rfl
theorem ws_30 (b : Bw) (S : St) (f : Nat → Int32) : (world b S).set 30 (bad b 30, .inl (bcy b 1, 52, .inl f)) = world b (pA S 30 f) := rfl
theorem ws_32 (b : Bw) (S : St) (f : Nat → Int32) : (world b S).set 32 (bad b 32, .inl (bcy b 1, 400, .inl f)) = world b (pA S 32 f) := rfl
theorem ws_33 (b : Bw) (S : St) (f : Nat → Int32) : (world b S).set 33 (bad b 33, .inl (bcy b 1, 400, .inl f)) = world b (pA S 33 f) := rfl
theorem ws_34 (b : Bw) (S : St) (f : Nat → Int32) : (world b S).set 34 (bad b 34, .inl (bcy b 1, 400, .inl f)) = world b (pA S 34 f) := rfl
theorem ws_35 (b : Bw) (S : St) (f : Nat → Int32) : (world b S).set 35 (bad b 35, .inl (bcy b 1, 400, .inl f)) = world b (pA S 35 f) := rfl
theorem ws_36 (b : Bw) (S : St) (f : Nat → Int32) : (world b S).set 36 (bad b 36, .inl (bcy b 1, 400, .inl f)) = world b (pA S 36 f) := rfl
theorem ws_37 (b : Bw) (S : St) (f : Nat → Int32) : (world b S).set 37 (bad b 37, .inl (bcy b 1, 400, .inl f)) = world b (pA S 37 f) := rfl
theorem ws_38 (b : Bw) (S : St) (f : Nat → Int32) : (world b S).set 38 (bad b 38, .inl (bcy b 1, 400, .inl f)) = world b (pA S 38 f) := rfl
theorem ws_39 (b : Bw) (S : St) (f : Nat → Int64) : (world b S).set 39 (bad b 39, .inl (bcy b 2, 400, .inr (.inl f))) = world b (pL S 39 f) := rfl
theorem ws_40 (b : Bw) (S : St) (f : Nat → Int64) : (world b S).set 40 (bad b 40, .inl (bcy b 2, 400, .inr (.inl f))) = world b (pL S 40 f) := rfl
theorem ws_42 (b : Bw) (S : St) (f : Nat → Int32) : (world b S).set 42 (bad b 42, .inl (bcy b 1, 400, .inl f)) = world b (pA S 42 f) := rfl
theorem ws_43 (b : Bw) (S : St) (f : Nat → Int32) : (world b S).set 43 (bad b 43, .inl (bcy b 1, 400, .inl f)) = world b (pA S 43 f) := rfl
theorem ws_44 (b : Bw) (S : St) (f : Nat → Int32) : (world b S).set 44 (bad b 44, .inl (bcy b 1, 400, .inl f)) = world b (pA S 44 f) := rfl
theorem ws_45 (b : Bw) (S : St) (f : Nat → Int32) : (world b S).set 45 (bad b 45, .inl (bcy b 1, 400, .inl f)) = world b (pA S 45 f) := rfl
theorem ws_46 (b : Bw) (S : St) (f : Nat → Int32) : (world b S).set 46 (bad b 46, .inl (bcy b 1, 400, .inl f)) = world b (pA S 46 f) := rfl
theorem ws_47 (b : Bw) (S : St) (f : Nat → Int32) : (world b S).set 47 (bad b 47, .inl (bcy b 1, 400, .inl f)) = world b (pA S 47 f) := rfl
theorem ws_48 (b : Bw) (S : St) (f : Nat → Int32) : (world b S).set 48 (bad b 48, .inl (bcy b 1, 400, .inl f)) = world b (pA S 48 f) := rfl
theorem ws_49 (b : Bw) (S : St) (f : Nat → Int32) : (world b S).set 49 (bad b 49, .inl (bcy b 1, 48, .inl f)) = world b (pA S 49 f) := rfl
theorem ws_50 (b : Bw) (S : St) (f : Nat → Int32) : (world b S).set 50 (bad b 50, .inl (bcy b 1, 48, .inl f)) = world b (pA S 50 f) := rfl
theorem ws_51 (b : Bw) (S : St) (f : Nat → Int32) : (world b S).set 51 (bad b 51, .inl (bcy b 1, 48, .inl f)) = world b (pA S 51 f) := rfl
theorem ws_52 (b : Bw) (S : St) (f : Nat → Int32) : (world b S).set 52 (bad b 52, .inl (bcy b 1, 48, .inl f)) = world b (pA S 52 f) := rfl
theorem ws_53 (b : Bw) (S : St) (f : Nat → Int32) : (world b S).set 53 (bad b 53, .inl (bcy b 1, 48, .inl f)) = world b (pA S 53 f) := rfl
theorem ws_54 (b : Bw) (S : St) (f : Nat → Int32) : (world b S).set 54 (bad b 54, .inl (bcy b 1, 12, .inl f)) = world b (pA S 54 f) := rfl
theorem ws_55 (b : Bw) (S : St) (f : Nat → Int32) : (world b S).set 55 (bad b 55, .inl (bcy b 1, 12, .inl f)) = world b (pA S 55 f) := rfl
theorem ws_56 (b : Bw) (S : St) (f : Nat → Int32) : (world b S).set 56 (bad b 56, .inl (bcy b 3, 12, .inl f)) = world b (pA S 56 f) := rfl
theorem ws_57 (b : Bw) (S : St) (f : Nat → Int32) : (world b S).set 57 (bad b 57, .inl (bcy b 1, 6, .inl f)) = world b (pA S 57 f) := rfl
theorem ws_58 (b : Bw) (S : St) (f : Nat → Int32) : (world b S).set 58 (bad b 58, .inl (bcy b 1, 6, .inl f)) = world b (pA S 58 f) := rfl
theorem ws_59 (b : Bw) (S : St) (f : Nat → Int32) : (world b S).set 59 (bad b 59, .inl (bcy b 1, 6, .inl f)) = world b (pA S 59 f) := rfl
theorem ws_60 (b : Bw) (S : St) (f : Nat → Int32) : (world b S).set 60 (bad b 60, .inl (bcy b 1, 24, .inl f)) = world b (pA S 60 f) := rfl
theorem ws_61 (b : Bw) (S : St) (f : Nat → Int32) : (world b S).set 61 (bad b 61, .inl (bcy b 1, 24, .inl f)) = world b (pA S 61 f) := rfl
theorem ws_62 (b : Bw) (S : St) (f : Nat → Int32) : (world b S).set 62 (bad b 62, .inl (bcy b 1, 24, .inl f)) = world b (pA S 62 f) := rfl
theorem ws_63 (b : Bw) (S : St) (f : Nat → Int32) : (world b S).set 63 (bad b 63, .inl (bcy b 1, 24, .inl f)) = world b (pA S 63 f) := rfl
theorem ws_64 (b : Bw) (S : St) (f : Nat → Int32) : (world b S).set 64 (bad b 64, .inl (bcy b 1, 400, .inl f)) = world b (pA S 64 f) := rfl
theorem ws_65 (b : Bw) (S : St) (f : Nat → Int32) : (world b S).set 65 (bad b 65, .inl (bcy b 1, 2400, .inl f)) = world b (pA S 65 f) := rfl
theorem ws_66 (b : Bw) (S : St) (f : Nat → Int32) : (world b S).set 66 (bad b 66, .inl (bcy b 1, 2400, .inl f)) = world b (pA S 66 f) := rfl
theorem wg_25 (b : Bw) (S : St) (i : Nat) (h : i < 4) : (world b S)[26 + i]? = some (bad b (26 + i), .inl (bcy b 1, 24, .inl (gA S (26 + i)))) := by
  have h1 : i = 0 ∨ i = 1 ∨ i = 2 ∨ i = 3 := by omega
  rcases h1 with rfl | rfl | rfl | rfl <;> rfl
theorem wgs_25 (b : Bw) (S : St) (i : Nat) (h : i < 4) (f : Nat → Int32) : (world b S).set (26 + i) (bad b (26 + i), .inl (bcy b 1, 24, .inl f)) = world b (pA S (26 + i) f) := by
  have h1 : i = 0 ∨ i = 1 ∨ i = 2 ∨ i = 3 := by omega
  rcases h1 with rfl | rfl | rfl | rfl <;> rfl
theorem wg_31 (b : Bw) (S : St) (i : Nat) (h : i < 7) : (world b S)[32 + i]? = some (bad b (32 + i), .inl (bcy b 1, 400, .inl (gA S (32 + i)))) := by
  have h1 : i = 0 ∨ i = 1 ∨ i = 2 ∨ i = 3 ∨ i = 4 ∨ i = 5 ∨ i = 6 := by omega
  rcases h1 with rfl | rfl | rfl | rfl | rfl | rfl | rfl <;> rfl
theorem wgs_31 (b : Bw) (S : St) (i : Nat) (h : i < 7) (f : Nat → Int32) : (world b S).set (32 + i) (bad b (32 + i), .inl (bcy b 1, 400, .inl f)) = world b (pA S (32 + i) f) := by
  have h1 : i = 0 ∨ i = 1 ∨ i = 2 ∨ i = 3 ∨ i = 4 ∨ i = 5 ∨ i = 6 := by omega
  rcases h1 with rfl | rfl | rfl | rfl | rfl | rfl | rfl <;> rfl
theorem wg_41 (b : Bw) (S : St) (i : Nat) (h : i < 7) : (world b S)[42 + i]? = some (bad b (42 + i), .inl (bcy b 1, 400, .inl (gA S (42 + i)))) := by
  have h1 : i = 0 ∨ i = 1 ∨ i = 2 ∨ i = 3 ∨ i = 4 ∨ i = 5 ∨ i = 6 := by omega
  rcases h1 with rfl | rfl | rfl | rfl | rfl | rfl | rfl <;> rfl
theorem wgs_41 (b : Bw) (S : St) (i : Nat) (h : i < 7) (f : Nat → Int32) : (world b S).set (42 + i) (bad b (42 + i), .inl (bcy b 1, 400, .inl f)) = world b (pA S (42 + i) f) := by
  have h1 : i = 0 ∨ i = 1 ∨ i = 2 ∨ i = 3 ∨ i = 4 ∨ i = 5 ∨ i = 6 := by omega
  rcases h1 with rfl | rfl | rfl | rfl | rfl | rfl | rfl <;> rfl
theorem wl (b : Bw) (S : St) (i : Nat) (h : i = 39 ∨ i = 40) : (world b S)[i]? = some (bad b i, .inl (bcy b 2, 400, .inr (.inl (gL S i)))) := by
  rcases h with rfl | rfl <;> rfl
theorem wls (b : Bw) (S : St) (i : Nat) (h : i = 39 ∨ i = 40) (f : Nat → Int64) : (world b S).set i (bad b i, .inl (bcy b 2, 400, .inr (.inl f))) = world b (pL S i f) := by
  rcases h with rfl | rfl <;> rfl
