/-! what the class does with letters (the strings by their places: "" p r o s b n w, the kinds' letters), and the feasts -/
def shT : List (List Int32) := [[], [112, 107, 48, 59], [114, 48, 48, 48, 48, 59], [111, 48, 48, 48, 59], [115, 48, 48, 59], [98, 48, 59], [110, 48, 59], [119, 48, 48, 59], [112, 100, 107, 113, 120, 119]]
def lnT : List Nat := [0, 4, 6, 5, 4, 3, 3, 4, 6]
def lnS (i : Nat) : Nat := lnT.getD i 0
def chS (i k : Nat) : Int32 := (shT.getD i []).getD k 0
def i2cV (x : Int32) : Int32 := (x.toUInt32 % 65536).toInt32
def ixF (c : Int32) : List Int32 → Nat → Int32
  | [], _ => -1
  | b :: l, k => if b = c then nI k else ixF c l (k + 1)
def kix (c : Int32) : Int32 := ixF c (shT.getD 8 []) 0
def f_X7_shapeOf (x0 : Int32) : Option Nat := (if x0 = 98 then some 5 else (if x0 = 110 then some 6 else (if x0 = 111 then some 3 else (if x0 = 112 then some 1 else (if x0 = 114 then some 2 else (if x0 = 115 then some 4 else (if x0 = 119 then some 7 else some 0)))))))
def f_X7_fits (x0 : Int32) (x1 : Int32) : Option Int32 := (if x1 = 48 then (if x0 < (48 : Int32) then (some (0 : Int32)) else (if (57 : Int32) < x0 then (some (0 : Int32)) else (some (1 : Int32)))) else (if x1 = 107 then (if kix (i2cV x0) < 0 then (some (0 : Int32)) else (some (1 : Int32))) else (if x0 = x1 then (some (1 : Int32)) else (some (0 : Int32)))))
def f_X7_firstWrongLetter_35 (u : TS) (k7 : Nat → Int32 → Int32 → Option Int32) (s : Nat) (x2 : Int32) (x3 : Int32) : Option Int32 :=
  (if lnS s = 0 then (some x3) else (ck x3 96 (ck x2 (lnS s) ((f_X7_fits ((gT_let u) (Int32.toNatClampNeg x3)) (chS s (Int32.toNatClampNeg x2))).bind fun z53 => (if z53 = 0 then (some x3) else (k7 s (x2 + 1) (x3 + 1)))))))
def b_X7_firstWrongLetter_7 (u : TS) (k7 : Nat → Int32 → Int32 → Option Int32) (s : Nat) (x2 : Int32) (x3 : Int32) : Option Int32 :=
  (if (gT_size u) ≤ x3 then (if (gT_size u) ≤ 0 then (some (gT_size u)) else (if x2 = nI (lnS s) then (some ((-9) : Int32)) else (some (gT_size u)))) else (if x2 < nI (lnS s) then (f_X7_firstWrongLetter_35 u k7 s x2 x3) else (ck x3 96 ((f_X7_shapeOf ((gT_let u) (Int32.toNatClampNeg x3))).bind fun z29 => (f_X7_firstWrongLetter_35 u k7 z29 (0 : Int32) x3)))))
def f_X7_firstWrongLetter_7 (u : TS) : Nat → Nat → Int32 → Int32 → Option Int32 := lq3 (b_X7_firstWrongLetter_7 u)
def f_X7_firstWrongLetter (u : TS) : Option Int32 := (f_X7_firstWrongLetter_7 u smN 0 (0 : Int32) (0 : Int32))
def f_X7_carryOutPerson_29 (x2 : Int32) (u : TS × VS) (y0 : Int32) : Option (Int32 × (TS × VS)) :=
  (if y0 < 0 then (some ((0 : Int32), u)) else (if (gV_people u.2) < (8 : Int32) then ((f_X7_digit u.1 (x2 + (2 : Int32))).bind fun z51 => ((f_X8_comes u.2 y0 z51).bind fun z54 => (some ((1 : Int32), (u.1, z54))))) else (some ((0 : Int32), u))))
def f_X7_carryOutPerson (u : TS × VS) (x2 : Int32) : Option (Int32 × (TS × VS)) :=
  (if (gT_size u.1) ≤ (x2 + (1 : Int32)) then (f_X7_carryOutPerson_29 x2 u ((-9) : Int32)) else (ck (x2 + (1 : Int32)) 96 (f_X7_carryOutPerson_29 x2 u (kix (i2cV ((gT_let u.1) (Int32.toNatClampNeg (x2 + (1 : Int32)))))))))
def f_X7_carryOut (u : TS × VS) (x2 : Int32) : Option (Int32 × (TS × VS)) :=
  (ck x2 96 (if ((gT_let u.1) (Int32.toNatClampNeg x2)) = 98 then ((f_X7_digit u.1 (x2 + (1 : Int32))).bind fun z168 => ((f_X7_carryOutBack u.2 z168).bind fun z171 => (zr z171.1 (some (z171.1, (u.1, z171.2)))))) else (if ((gT_let u.1) (Int32.toNatClampNeg x2)) = 110 then ((f_X7_digit u.1 (x2 + (1 : Int32))).bind fun z180 => ((f_X7_carryOutNames u.2 z180).bind fun z183 => (zr z183.1 (some (z183.1, (u.1, z183.2)))))) else (if ((gT_let u.1) (Int32.toNatClampNeg x2)) = 111 then ((f_X7_digit u.1 (x2 + (1 : Int32))).bind fun z130 => ((f_X7_number u.1 (x2 + (2 : Int32))).bind fun z137 => ((f_X7_carryOutOwes u.2 z130 z137).bind fun z140 => (zr z140.1 (some (z140.1, (u.1, z140.2))))))) else (if ((gT_let u.1) (Int32.toNatClampNeg x2)) = 112 then ((f_X7_carryOutPerson u x2).bind fun z95 => (zr z95.1 (some (z95.1, z95.2)))) else (if ((gT_let u.1) (Int32.toNatClampNeg x2)) = 114 then ((f_X7_digit u.1 (x2 + (1 : Int32))).bind fun z104 => ((f_X7_digit u.1 (x2 + (2 : Int32))).bind fun z111 => ((f_X7_number u.1 (x2 + (3 : Int32))).bind fun z118 => ((f_X7_carryOutRecalls u.2 z104 z111 z118).bind fun z121 => (zr z121.1 (some (z121.1, (u.1, z121.2)))))))) else (if ((gT_let u.1) (Int32.toNatClampNeg x2)) = 115 then ((f_X7_digit u.1 (x2 + (1 : Int32))).bind fun z149 => ((f_X7_digit u.1 (x2 + (2 : Int32))).bind fun z156 => ((f_X7_carryOutSpeaks u.2 z149 z156).bind fun z159 => (zr z159.1 (some (z159.1, (u.1, z159.2))))))) else ((f_X7_number u.1 (x2 + (1 : Int32))).bind fun z192 => ((f_X7_carryOutWeeks u.2 z192).bind fun z195 => (zr z195.1 (some (z195.1, (u.1, z195.2)))))))))))))
def b_X7_tell_22   (k22 : (TS × VS) → Int32 → Int32 → Option (Int32 × (TS × VS))) (u : TS × VS) (x3 : Int32) (x4 : Int32) : Option (Int32 × (TS × VS)) :=
  (if (gT_size u.1) ≤ x4 then (some (x3, u)) else ((f_X7_isStart u.1 x4).bind fun z34 => (if z34 = 0 then (k22 u x3 (x4 + 1)) else ((f_X7_carryOut u x4).bind fun z44 => (if z44.1 = 0 then (some ((((-2000) : Int32) - x4), z44.2)) else (k22 z44.2 (x3 + 1) (x4 + 1)))))))
def f_X7_tell_22   : Nat → (TS × VS) → Int32 → Int32 → Option (Int32 × (TS × VS)) := lq3 (b_X7_tell_22  )
def f_X7_tell (u : TS × VS) : Option (Int32 × (TS × VS)) :=
  ((f_X7_firstWrongLetter u.1).bind fun z1 => (if z1 = ((-9) : Int32) then (f_X7_tell_22   smN u (0 : Int32) (0 : Int32)) else (some ((((-1000) : Int32) - z1), u))))
def f_X10_valley (u : XS) : Option (Int32 × (XS)) :=
  ((f_X8_copy ((gX_told u), (gM_now (gX_mind u)))).bind fun z8 => ((f_X7_tell (gX_tell (sX_mind (sX_told u z8.1) (sM_now (gX_mind (sX_told u z8.1)) z8.2)), gX_told (sX_mind (sX_told u z8.1) (sM_now (gX_mind (sX_told u z8.1)) z8.2)))).bind fun z19 => ((f_X7_forgetLetters (gX_tell (sX_told (sX_tell (sX_mind (sX_told u z8.1) (sM_now (gX_mind (sX_told u z8.1)) z8.2)) z19.2.1) z19.2.2))).bind fun z27 => ((some (sX_tell (sX_told (sX_tell (sX_mind (sX_told u z8.1) (sM_now (gX_mind (sX_told u z8.1)) z8.2)) z19.2.1) z19.2.2) z27)).bind fun u27 => (if z19.1 ≤ 0 then (some (z19.1, u27)) else ((f_X8_copy ((gM_now (gX_mind u27)), (gX_told u27))).bind fun z42 => (some (z19.1, (sX_told (sX_mind u27 (sM_now (gX_mind u27) z42.1)) z42.2)))))))))
def b_X3_waysHere_6 (x1 : Int32) (x2 : Int32) (x3 : Int32)  (k6 : MS → Int64 → Int32 → Option (Int64 × (MS))) (u : MS) (x4 : Int64) (x6 : Int32) : Option (Int64 × (MS)) :=
  (if ((1 : Int32) <<< (x2 &&& 31)) ≤ x6 then (some (x4, u)) else ((f_X3_isHereBehind u x1 x2 x6).bind fun z19 => (if z19.1 = 0 then (k6 z19.2 x4 (x6 + 1)) else ((f_J6_bitCount_0f7a4 x6).bind fun z33 => ((f_X10_raised (x3 - (1 : Int32)) (x2 - z33)).bind fun z37 => (k6 z19.2 (x4 + z37) (x6 + 1)))))))
def f_X3_waysHere_6 (x1 : Int32) (x2 : Int32) (x3 : Int32)  : Nat → MS → Int64 → Int32 → Option (Int64 × (MS)) := lq3 (b_X3_waysHere_6 x1 x2 x3 )
def f_X3_waysHere (u : MS) (x1 : Int32) (x2 : Int32) (x3 : Int32) : Option (Int64 × (MS)) :=
  (f_X3_waysHere_6 x1 x2 x3  smN u (0 : Int64) (0 : Int32))
def f_X10_feast_35 (x1 : Int32) (x2 : Int32) (x3 : Int32) (x4 : Int32)  (u : XS) (x5 : Int32) (y0 : Int32) : Option (Int64 × (XS)) :=
  ((f_X10_nobody u x1).bind fun z40 => ((f_X10_wrongWhat x4 (1 : Int32)).bind fun z50 => ((f_X10_refused___ u z40 x5 y0 z50).bind fun z53 => (if z53.1 = 0 then ((f_X3_waysHere (gX_mind z53.2) x1 x2 x3).bind fun z78 => ((f_X10_raised x3 x2).bind fun z83 => ((f_X10_partOf z78.1 z83 x4).bind fun z88 => (some (z88, (sX_mind z53.2 z78.2)))))) else (some (((4000000000000000000 : Int64) - (Int32.toInt64 z53.1)), z53.2))))))
def f_X10_feast_15 (x1 : Int32) (x2 : Int32) (x3 : Int32) (x4 : Int32)  (u : XS) (y0 : Int32) : Option (Int64 × (XS)) :=
  (if (7 : Int32) < x2 then (f_X10_feast_35 x1 x2 x3 x4  u y0 ((-6) : Int32)) else (if x3 ≤ (20 : Int32) then (f_X10_feast_35 x1 x2 x3 x4  u y0 (0 : Int32)) else (f_X10_feast_35 x1 x2 x3 x4  u y0 ((-6) : Int32))))
def f_X10_feast (u : XS) (x1 : Int32) (x2 : Int32) (x3 : Int32) (x4 : Int32) : Option (Int64 × (XS)) :=
  (if x2 < 0 then (f_X10_feast_15 x1 x2 x3 x4  u ((-4) : Int32)) else (if (2 : Int32) ≤ x3 then (f_X10_feast_15 x1 x2 x3 x4  u (0 : Int32)) else (f_X10_feast_15 x1 x2 x3 x4  u ((-4) : Int32))))
