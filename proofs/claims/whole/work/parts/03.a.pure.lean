/-! What each method does, as a function: nothing (none) where an index is out of its row, a divisor 0, or a loop too long. -/
def M_X0_hasRoom (lz : Int32) : Option (Int32) :=
  if (96 : Int32) ≤ lz then some (0 : Int32) else some (1 : Int32)
def M_X0_take (sg : (Nat → Int32)) (lz : Int32) (p1 : Int32) : Option (Int32 × (Nat → Int32) × Int32) :=
  bnd1 (M_X0_hasRoom lz) fun r1 => if r1 = 0 then some (lz, sg, lz) else chk lz 96 (some ((lz + (1 : Int32)), (upd sg (Int32.toNatClampNeg lz) p1), (lz + (1 : Int32))))
def M_X0_forget (lz : Int32) : Option (Int32) :=
  some (0 : Int32)
def M_X0_sign (sg : (Nat → Int32)) (lz : Int32) (p1 : Int32) : Option (Int32) :=
  if p1 < 0 then some (0 : Int32) else if lz ≤ p1 then some (0 : Int32) else chk p1 96 (some (sg (Int32.toNatClampNeg p1)))
def M_X0_partsBehind (p0 : Int32) : Option (Int32) :=
  if p0 = 98 then some (2 : Int32) else if p0 = 100 then some (2 : Int32) else if p0 = 110 then some (1 : Int32) else if p0 = 112 then some (1 : Int32) else if p0 = 115 then some (2 : Int32) else if p0 = 116 then some (3 : Int32) else if p0 = 119 then some (2 : Int32) else some (0 : Int32)
def M_X0_kindOf (p0 : Int32) : Option (Int32) :=
  if p0 = 99 then some (1 : Int32) else if p0 = 103 then some (2 : Int32) else if p0 = 107 then some (4 : Int32) else if p0 = 108 then some (5 : Int32) else if p0 = 116 then some (0 : Int32) else if p0 = 119 then some (3 : Int32) else some (-9 : Int32)
def M_X0_fits (sg : (Nat → Int32)) (lz : Int32) (p1 : Int32) (p2 : Int32) (p3 : Int32) : Option (Int32) :=
  bnd1 (M_X0_sign sg lz (p1 + p2)) fun r4 => if p2 ≤ p3 then if p2 = (1 : Int32) then bnd1 (M_X0_sign sg lz p1) fun r34 => if r34 = (116 : Int32) then bnd1 (M_X0_kindOf r4) fun r44 => if r44 = (-9 : Int32) then some (0 : Int32) else some (1 : Int32) else if r4 < (48 : Int32) then some (0 : Int32) else if (57 : Int32) < r4 then some (0 : Int32) else some (1 : Int32) else if r4 < (48 : Int32) then some (0 : Int32) else if (57 : Int32) < r4 then some (0 : Int32) else some (1 : Int32) else if r4 = (59 : Int32) then some (1 : Int32) else some (0 : Int32)
def B_X0_formFault_36 (x1 : Int32) (x2 : Int32) (sg : (Nat → Int32)) (lz : Int32) (k78 : Unit → Option (Int32)) (k53 : Unit → Option (Int32)) (k68 : Int32 → Option (Int32)) (rec : Int32 → Option (Int32)) : Int32 → Option (Int32) := fun x3 =>
  if (x2 + (1 : Int32)) < x3 then k78 () else if (x1 + x3) < lz then bnd1 (M_X0_fits sg lz x1 x3 x2) fun r62 => if r62 = 0 then k68 x3 else rec (x3 + 1) else k53 ()
def B_X0_formFault_11 (sg : (Nat → Int32)) (lz : Int32) (rec : Int32 → Option (Int32)) : Int32 → Option (Int32) := fun x1 =>
  if lz ≤ x1 then some (-9 : Int32) else bnd1 (M_X0_sign sg lz x1) fun r21 => bnd1 (M_X0_partsBehind r21) fun r24 => if r24 = 0 then some x1 else fuel (fun _ => none) (B_X0_formFault_36 x1 r24 sg lz (fun (_ : Unit) => rec (x1 + (r24 + (2 : Int32)))) (fun (_ : Unit) => some lz) (fun x3 => some (x1 + x3))) FU (1 : Int32)
def M_X0_formFault (sg : (Nat → Int32)) (lz : Int32) : Option (Int32) :=
  if lz = 0 then some (0 : Int32) else fuel (fun _ => none) (B_X0_formFault_11 sg lz) FU (0 : Int32)
def M_X2_addPerson (v : SV) (p1 : Int32) : Option (Int32 × SV) :=
  if (sPe v) < (6 : Int32) then chk (sPe v) 6 (chk (sPe v) 6 (some ((1 : Int32), (sUPe (sUMe (sUSk v (upd (sSk v) (Int32.toNatClampNeg (sPe v)) p1)) (upd (sMe v) (Int32.toNatClampNeg (sPe v)) (0 : Int32))) ((sPe v) + (1 : Int32)))))) else some ((0 : Int32), v)
def M_X2_isPerson (v : SV) (p1 : Int32) : Option (Int32) :=
  if p1 < 0 then some (0 : Int32) else if (sPe v) ≤ p1 then some (0 : Int32) else some (1 : Int32)
def M_X2_addThing (v : SV) (p1 : Int32) (p2 : Int32) (p3 : Int32) : Option (Int32 × SV) :=
  if (9 : Int32) ≤ (sTh v) then some ((0 : Int32), v) else bnd1 (M_X2_isPerson v p3) fun r11 => if r11 = 0 then some ((0 : Int32), v) else chk (sTh v) 9 (chk (sTh v) 9 (chk (sTh v) 9 (chk (sTh v) 9 (chk (sTh v) 9 (some ((1 : Int32), (sUTh (sUBr (sUWe (sUOw (sUFi (sUKi v (upd (sKi v) (Int32.toNatClampNeg (sTh v)) p1)) (upd (sFi v) (Int32.toNatClampNeg (sTh v)) p2)) (upd (sOw v) (Int32.toNatClampNeg (sTh v)) p3)) (upd (sWe v) (Int32.toNatClampNeg (sTh v)) (0 : Int32))) (upd (sBr v) (Int32.toNatClampNeg (sTh v)) (-9 : Int32))) ((sTh v) + (1 : Int32)))))))))
def M_X2_isThing (v : SV) (p1 : Int32) : Option (Int32) :=
  if p1 < 0 then some (0 : Int32) else if (sTh v) ≤ p1 then some (0 : Int32) else some (1 : Int32)
def M_X0_tellBroken (v : SV) (p1 : Int32) (p2 : Int32) (p3 : Int32) : Option (Int32 × SV) :=
  bnd1 (M_X2_isThing v p1) fun r2 => if r2 = 0 then some ((0 : Int32), v) else chk p1 9 (if ((sBr v) (Int32.toNatClampNeg p1)) = p2 then chk p1 9 (some ((1 : Int32), (sUBr v (upd (sBr v) (Int32.toNatClampNeg p1) p3)))) else some ((0 : Int32), v))
def M_X0_tellWear (v : SV) (p1 : Int32) (p2 : Int32) : Option (Int32 × SV) :=
  bnd1 (M_X2_isThing v p1) fun r2 => if r2 = 0 then some ((0 : Int32), v) else chk p1 9 (some ((1 : Int32), (sUWe v (upd (sWe v) (Int32.toNatClampNeg p1) p2))))
def M_X2_isWhole (v : SV) (p1 : Int32) : Option (Int32) :=
  chk p1 9 (if ((sBr v) (Int32.toNatClampNeg p1)) = (-9 : Int32) then some (1 : Int32) else some (0 : Int32))
def M_X2_moreWearOf (v : SV) (p1 : Int32) (p2 : Int32) : Option (Int32) :=
  if (p2 - p2 / (2 : Int32) * (2 : Int32)) = 0 then chk p1 9 (if ((sKi v) (Int32.toNatClampNeg p1)) = 1 then some (0 : Int32) else if ((sKi v) (Int32.toNatClampNeg p1)) = 2 then some ((1 : Int32) + (1 : Int32)) else if ((sKi v) (Int32.toNatClampNeg p1)) = 3 then some (((1 : Int32) + (1 : Int32)) + (1 : Int32)) else if ((sKi v) (Int32.toNatClampNeg p1)) = 4 then chk p1 9 (some ((1 : Int32) + (((sFi v) (Int32.toNatClampNeg p1)) / (4 : Int32)))) else if ((sKi v) (Int32.toNatClampNeg p1)) = 5 then some ((((1 : Int32) + (1 : Int32)) + (1 : Int32)) / (2 : Int32)) else some (1 : Int32)) else chk p1 9 (if ((sKi v) (Int32.toNatClampNeg p1)) = 1 then some (0 : Int32) else if ((sKi v) (Int32.toNatClampNeg p1)) = 2 then some ((0 : Int32) + (1 : Int32)) else if ((sKi v) (Int32.toNatClampNeg p1)) = 3 then some (((0 : Int32) + (1 : Int32)) + (1 : Int32)) else if ((sKi v) (Int32.toNatClampNeg p1)) = 4 then chk p1 9 (some ((0 : Int32) + (((sFi v) (Int32.toNatClampNeg p1)) / (4 : Int32)))) else if ((sKi v) (Int32.toNatClampNeg p1)) = 5 then some ((((0 : Int32) + (1 : Int32)) + (1 : Int32)) / (2 : Int32)) else some (0 : Int32))
def M_X2_wearMore (v : SV) (p1 : Int32) (p2 : Int32) : Option (SV) :=
  chk p1 9 (chk p1 9 (chk p1 9 (if ((upd (sWe v) (Int32.toNatClampNeg p1) (((sWe v) (Int32.toNatClampNeg p1)) + p2)) (Int32.toNatClampNeg p1)) ≤ (9 : Int32) then some (sUWe v (upd (sWe v) (Int32.toNatClampNeg p1) (((sWe v) (Int32.toNatClampNeg p1)) + p2))) else chk p1 9 (chk p1 9 (some (sUBr (sUWe v (upd (upd (sWe v) (Int32.toNatClampNeg p1) (((sWe v) (Int32.toNatClampNeg p1)) + p2)) (Int32.toNatClampNeg p1) (9 : Int32))) (upd (sBr v) (Int32.toNatClampNeg p1) (-8 : Int32))))))))
def B_X2_wearAll_2 (x1 : Int32) (rec : Int32 → SV → Option (SV)) : Int32 → SV → Option (SV) := fun x2 v =>
  if (sTh v) ≤ x2 then some v else bnd1 (M_X2_isWhole v x2) fun r12 => if r12 = 0 then rec (x2 + 1) v else bnd1 (M_X2_moreWearOf v x2 (sDa v)) fun r27 => bnd1 (M_X2_wearMore v x2 (x1 * r27)) fun u31_v => rec (x2 + 1) u31_v
def M_X2_wearAll (v : SV) (p1 : Int32) : Option (SV) :=
  fuel (fun _ _ => none) (B_X2_wearAll_2 p1) FU (0 : Int32) v
def B_X2_canBeMended_2 (v : SV) (rec : Int32 → Option (Int32)) : Int32 → Option (Int32) := fun x1 =>
  if (sTh v) ≤ x1 then some (0 : Int32) else chk x1 9 (if ((sBr v) (Int32.toNatClampNeg x1)) < 0 then rec (x1 + 1) else some (1 : Int32))
def M_X2_canBeMended (v : SV) : Option (Int32) :=
  fuel (fun _ => none) (B_X2_canBeMended_2 v) FU (0 : Int32)
def M_X2_hardOf (v : SV) (p1 : Int32) : Option (Int32) :=
  chk p1 9 (chk p1 9 (chk p1 9 (if ((sKi v) (Int32.toNatClampNeg p1)) = 1 then some (((sFi v) (Int32.toNatClampNeg p1)) / (2 : Int32)) else if ((sKi v) (Int32.toNatClampNeg p1)) = 3 then some (if (((sFi v) (Int32.toNatClampNeg p1)) + (1 : Int32)) < (9 : Int32) then (((sFi v) (Int32.toNatClampNeg p1)) + (1 : Int32)) else (9 : Int32)) else if ((sKi v) (Int32.toNatClampNeg p1)) = 4 then some (if (((sFi v) (Int32.toNatClampNeg p1)) + (2 : Int32)) < (9 : Int32) then (((sFi v) (Int32.toNatClampNeg p1)) + (2 : Int32)) else (9 : Int32)) else if ((sKi v) (Int32.toNatClampNeg p1)) = 5 then bnd1 (M_X2_isPerson v ((sOw v) (Int32.toNatClampNeg p1))) fun r82 => if r82 = 0 then some (if (((sFi v) (Int32.toNatClampNeg p1)) + (1 : Int32)) < (9 : Int32) then (((sFi v) (Int32.toNatClampNeg p1)) + (1 : Int32)) else (9 : Int32)) else chk ((sOw v) (Int32.toNatClampNeg p1)) 6 (if ((sSk v) (Int32.toNatClampNeg ((sOw v) (Int32.toNatClampNeg p1)))) < (5 : Int32) then some (if (((sFi v) (Int32.toNatClampNeg p1)) + (1 : Int32)) < (9 : Int32) then (((sFi v) (Int32.toNatClampNeg p1)) + (1 : Int32)) else (9 : Int32)) else some (0 : Int32)) else some ((sFi v) (Int32.toNatClampNeg p1)))))
def M_X2_mayMend (v : SV) (p1 : Int32) (p2 : Int32) : Option (Int32) :=
  chk p2 9 (if ((sBr v) (Int32.toNatClampNeg p2)) < 0 then some (0 : Int32) else if ((sBr v) (Int32.toNatClampNeg p2)) = p1 then some (0 : Int32) else chk p1 6 (bnd1 (M_X2_hardOf v p2) fun r24 => if ((sSk v) (Int32.toNatClampNeg p1)) < r24 then some (0 : Int32) else some (1 : Int32)))
def M_X2_mend (v : SV) (p1 : Int32) (p2 : Int32) : Option (SV) :=
  chk p2 9 (chk p2 9 (chk p1 6 (chk p1 6 (some (sUBr (sUWe (sUMe v (upd (sMe v) (Int32.toNatClampNeg p1) (if (((sMe v) (Int32.toNatClampNeg p1)) + (1 : Int32)) < (999 : Int32) then (((sMe v) (Int32.toNatClampNeg p1)) + (1 : Int32)) else (999 : Int32)))) (upd (sWe v) (Int32.toNatClampNeg p2) (0 : Int32))) (upd (sBr v) (Int32.toNatClampNeg p2) (-9 : Int32)))))))
def B_X2_mendLeast_2 (x1 : Int32) (v : SV) (rec : Int32 → Option (SV)) : Int32 → Option (SV) := fun x2 =>
  if (sTh v) ≤ x2 then some v else bnd1 (M_X2_mayMend v x1 x2) fun r13 => if r13 = 0 then rec (x2 + 1) else bnd1 (M_X2_mend v x1 x2) fun u22_v => some u22_v
def M_X2_mendLeast (v : SV) (p1 : Int32) : Option (SV) :=
  fuel (fun _ => none) (B_X2_mendLeast_2 p1 v) FU (0 : Int32)
def B_X2_pass_27 (x1 : Int32) (x2 : Int32) (x3 : Int32) (x4 : Int32) (k61 : SV → Option (SV)) (rec : Int32 → SV → Option (SV)) : Int32 → SV → Option (SV) := fun x5 v =>
  if (sPe v) ≤ x5 then k61 v else bnd1 (M_X2_canBeMended v) fun r37 => if r37 = 0 then k61 v else if x5 = x3 then rec (x5 + 1) v else bnd1 (M_X2_mendLeast v x5) fun u52_v => rec (x5 + 1) u52_v
def B_X2_pass_3 (x1 : Int32) (x2 : Int32) (x3 : Int32) (rec : Int32 → SV → Option (SV)) : Int32 → SV → Option (SV) := fun x4 v =>
  if x1 ≤ x4 then some v else bnd1 (M_X2_wearAll (sUDa v ((sDa v) + (1 : Int32))) x2) fun u21_v => fuel (fun _ _ => none) (B_X2_pass_27 x1 x2 x3 x4 (fun v => rec (x4 + 1) v)) FU (0 : Int32) u21_v
def M_X2_pass (v : SV) (p1 : Int32) (p2 : Int32) (p3 : Int32) : Option (SV) :=
  fuel (fun _ _ => none) (B_X2_pass_3 p1 p2 p3) FU (0 : Int32) v
def M_X0_tellOne (sg : (Nat → Int32)) (lz : Int32) (v : SV) (p2 : Int32) : Option (Int32 × SV) :=
  bnd1 (M_X0_sign sg lz (p2 + (1 : Int32))) fun r4 => bnd1 (M_X0_sign sg lz (p2 + (2 : Int32))) fun r15 => bnd1 (M_X0_sign sg lz p2) fun r25 => if r25 = 98 then bnd1 (M_X2_isPerson v (r4 - (48 : Int32))) fun r123 => if r123 = 0 then some ((0 : Int32), v) else bnd2 (M_X0_tellBroken v (r15 - (48 : Int32)) (-9 : Int32) (r4 - (48 : Int32))) fun r135 u135_v => if r135 = 0 then some ((0 : Int32), u135_v) else some ((1 : Int32), u135_v) else if r25 = 110 then bnd2 (M_X0_tellBroken v (r4 - (48 : Int32)) (-9 : Int32) (-8 : Int32)) fun r153 u153_v => zch r153 (some (r153, u153_v)) else if r25 = 112 then bnd2 (M_X2_addPerson v (r4 - (48 : Int32))) fun r90 u90_v => zch r90 (some (r90, u90_v)) else if r25 = 115 then bnd1 (M_X2_isPerson v (r4 - (48 : Int32))) fun r159 => if r159 = 0 then some ((0 : Int32), v) else bnd2 (M_X0_tellBroken v (r15 - (48 : Int32)) (-8 : Int32) (r4 - (48 : Int32))) fun r171 u171_v => if r171 = 0 then some ((0 : Int32), u171_v) else some ((1 : Int32), u171_v) else if r25 = 116 then bnd1 (M_X0_sign sg lz (p2 + (1 : Int32))) fun r99 => bnd1 (M_X0_kindOf r99) fun r102 => bnd1 (M_X0_sign sg lz (p2 + (3 : Int32))) fun r111 => bnd2 (M_X2_addThing v r102 (r15 - (48 : Int32)) (r111 - (48 : Int32))) fun r117 u117_v => zch r117 (some (r117, u117_v)) else if r25 = 119 then bnd2 (M_X0_tellWear v (r4 - (48 : Int32)) (r15 - (48 : Int32))) fun r187 u187_v => zch r187 (some (r187, u187_v)) else if (((10 : Int32) * (r4 - (48 : Int32))) + (r15 - (48 : Int32))) < (1 : Int32) then some ((0 : Int32), v) else if (60 : Int32) < (((10 : Int32) * (r4 - (48 : Int32))) + (r15 - (48 : Int32))) then some ((0 : Int32), v) else if ((sDa v) + (((10 : Int32) * (r4 - (48 : Int32))) + (r15 - (48 : Int32)))) ≤ (999 : Int32) then bnd1 (M_X2_pass v (((10 : Int32) * (r4 - (48 : Int32))) + (r15 - (48 : Int32))) (1 : Int32) (-9 : Int32)) fun u234_v => some ((1 : Int32), u234_v) else some ((0 : Int32), v)
def B_X0_tellTo_4 (sg : (Nat → Int32)) (lz : Int32) (rec : Int32 → Int32 → SV → Option (Int32 × SV)) : Int32 → Int32 → SV → Option (Int32 × SV) := fun x2 x3 v =>
  if lz ≤ x3 then some (x2, v) else bnd2 (M_X0_tellOne sg lz v x3) fun r15 u15_v => if r15 = 0 then some (((-2000 : Int32) - x3), u15_v) else bnd1 (M_X0_sign sg lz x3) fun r33 => bnd1 (M_X0_partsBehind r33) fun r36 => rec (x2 + 1) (x3 + (r36 + (2 : Int32))) u15_v
def M_X0_tellTo (sg : (Nat → Int32)) (lz : Int32) (v : SV) : Option (Int32 × SV) :=
  fuel (fun _ _ _ => none) (B_X0_tellTo_4 sg lz) FU (0 : Int32) (0 : Int32) v
def M_X1_isFree (v : SV) (p1 : Int32) (p2 : Int32) (p3 : Int32) : Option (Int32) :=
  if (p2 &&& ((1 : Int32) <<< (p1 &&& 31))) = 0 then bnd1 (M_X2_mayMend v p1 p3) fun r11 => if r11 = 0 then some (0 : Int32) else some (1 : Int32) else some (0 : Int32)
def B_X1_mostFrom_18 (x2 : Int32) (x3 : Int32) (be : (Nat → Int32)) (v : SV) (rec : Int32 → Int32 → Option (Int32)) : Int32 → Int32 → Option (Int32) := fun x4 x5 =>
  if (sPe v) ≤ x5 then some x4 else bnd1 (M_X1_isFree v x5 x3 x2) fun r32 => if r32 = 0 then rec x4 (x5 + 1) else chk (((x2 + (1 : Int32)) * (64 : Int32)) + (x3 ||| ((1 : Int32) <<< (x5 &&& 31)))) 640 (rec (if x4 < ((1 : Int32) + (be (Int32.toNatClampNeg (((x2 + (1 : Int32)) * (64 : Int32)) + (x3 ||| ((1 : Int32) <<< (x5 &&& 31))))))) then ((1 : Int32) + (be (Int32.toNatClampNeg (((x2 + (1 : Int32)) * (64 : Int32)) + (x3 ||| ((1 : Int32) <<< (x5 &&& 31))))))) else x4) (x5 + 1))
def M_X1_mostFrom (be : (Nat → Int32)) (v : SV) (p2 : Int32) (p3 : Int32) : Option (Int32) :=
  chk (((p2 + (1 : Int32)) * (64 : Int32)) + p3) 640 (fuel (fun _ _ => none) (B_X1_mostFrom_18 p2 p3 be v) FU (be (Int32.toNatClampNeg (((p2 + (1 : Int32)) * (64 : Int32)) + p3))) (0 : Int32))
def B_X1_fill_42 (x2 : Int32) (v : SV) (k72 : (Nat → Int32) → Option ((Nat → Int32))) (rec : Int32 → (Nat → Int32) → Option ((Nat → Int32))) : Int32 → (Nat → Int32) → Option ((Nat → Int32)) := fun x3 be =>
  if (64 : Int32) ≤ x3 then k72 be else bnd1 (M_X1_mostFrom be v x2 x3) fun r62 => chk ((x2 * (64 : Int32)) + x3) 640 (rec (x3 + 1) (upd be (Int32.toNatClampNeg ((x2 * (64 : Int32)) + x3)) r62))
def B_X1_fill_36 (v : SV) (rec : Int32 → (Nat → Int32) → Option ((Nat → Int32))) : Int32 → (Nat → Int32) → Option ((Nat → Int32)) := fun x2 be =>
  if x2 < 0 then some be else fuel (fun _ _ => none) (B_X1_fill_42 x2 v (fun be => rec (x2 + (-1)) be)) FU (0 : Int32) be
def B_X1_fill_2 (v : SV) (rec : Int32 → (Nat → Int32) → Option ((Nat → Int32))) : Int32 → (Nat → Int32) → Option ((Nat → Int32)) := fun x2 be =>
  if (64 : Int32) ≤ x2 then fuel (fun _ _ => none) (B_X1_fill_36 v) FU ((sTh v) - (1 : Int32)) be else chk (((sTh v) * (64 : Int32)) + x2) 640 (rec (x2 + 1) (upd be (Int32.toNatClampNeg (((sTh v) * (64 : Int32)) + x2)) (0 : Int32)))
def M_X1_fill (be : (Nat → Int32)) (v : SV) : Option ((Nat → Int32)) :=
  fuel (fun _ _ => none) (B_X1_fill_2 v) FU (0 : Int32) be
def M_X1_most (be : (Nat → Int32)) : Option (Int32) :=
  some (be 0)
def B_X1_leastMender_16 (x2 : Int32) (x3 : Int32) (x4 : Int32) (be : (Nat → Int32)) (v : SV) (rec : Int32 → Option (Int32)) : Int32 → Option (Int32) := fun x5 =>
  if (sPe v) ≤ x5 then some (-9 : Int32) else bnd1 (M_X1_isFree v x5 x3 x2) fun r30 => if r30 = 0 then rec (x5 + 1) else chk (((x2 + (1 : Int32)) * (64 : Int32)) + (x3 ||| ((1 : Int32) <<< (x5 &&& 31)))) 640 (if ((1 : Int32) + (be (Int32.toNatClampNeg (((x2 + (1 : Int32)) * (64 : Int32)) + (x3 ||| ((1 : Int32) <<< (x5 &&& 31))))))) = x4 then some x5 else rec (x5 + 1))
def M_X1_leastMender (be : (Nat → Int32)) (v : SV) (p2 : Int32) (p3 : Int32) : Option (Int32) :=
  chk ((p2 * (64 : Int32)) + p3) 640 (fuel (fun _ => none) (B_X1_leastMender_16 p2 p3 (be (Int32.toNatClampNeg ((p2 * (64 : Int32)) + p3))) be v) FU (0 : Int32))
def B_X1_menderOf_9 (x2 : Int32) (be : (Nat → Int32)) (v : SV) (rec : Int32 → Int32 → Int32 → Option (Int32)) : Int32 → Int32 → Int32 → Option (Int32) := fun x3 x4 x5 =>
  if x2 < x5 then some x4 else bnd1 (M_X1_leastMender be v x5 x3) fun r20 => if r20 = (-9 : Int32) then rec (x3 ||| (0 : Int32)) r20 (x5 + 1) else rec (x3 ||| ((1 : Int32) <<< (r20 &&& 31))) r20 (x5 + 1)
def M_X1_menderOf (be : (Nat → Int32)) (v : SV) (p2 : Int32) : Option (Int32) :=
  fuel (fun _ _ _ => none) (B_X1_menderOf_9 p2 be v) FU (0 : Int32) (-9 : Int32) (0 : Int32)
def M_X2_become (v : SV) (o : SV) : Option (SV) :=
  some (sUDa (sUTh (sUPe (sUBr (sUWe (sUOw (sUFi (sUKi (sUMe (sUSk v (sSk o)) (sMe o)) (sKi o)) (sFi o)) (sOw o)) (sWe o)) (sBr o)) (sPe o)) (sTh o)) (sDa o))
def M_X2_isMourned (v : SV) (p1 : Int32) : Option (Int32) :=
  chk p1 9 (if ((sBr v) (Int32.toNatClampNeg p1)) = (-8 : Int32) then some (1 : Int32) else some (0 : Int32))
def M_X2_isByAnother (v : SV) (p1 : Int32) : Option (Int32) :=
  chk p1 9 (if ((sBr v) (Int32.toNatClampNeg p1)) < 0 then some (0 : Int32) else chk p1 9 (chk p1 9 (if ((sBr v) (Int32.toNatClampNeg p1)) = ((sOw v) (Int32.toNatClampNeg p1)) then some (0 : Int32) else some (1 : Int32))))
def B_X2_ableBits_11 (x2 : Int32) (v : SV) (rec : Int32 → Int32 → Option (Int32)) : Int32 → Int32 → Option (Int32) := fun x3 x4 =>
  if (sPe v) ≤ x4 then some x3 else chk x4 6 (if ((sSk v) (Int32.toNatClampNeg x4)) < x2 then rec x3 (x4 + 1) else rec (x3 ||| ((1 : Int32) <<< (x4 &&& 31))) (x4 + 1))
def M_X2_ableBits (v : SV) (p1 : Int32) : Option (Int32) :=
  bnd1 (M_X2_hardOf v p1) fun r2 => fuel (fun _ _ => none) (B_X2_ableBits_11 r2 v) FU (0 : Int32) (0 : Int32)
def B_X2_mendersNow_4 (x1 : Int32) (v : SV) (rec : Int32 → Int32 → Option (Int32)) : Int32 → Int32 → Option (Int32) := fun x2 x3 =>
  if (sPe v) ≤ x3 then some x2 else bnd1 (M_X2_mayMend v x3 x1) fun r15 => if r15 = 0 then rec x2 (x3 + 1) else rec (x2 + 1) (x3 + 1)
def M_X2_mendersNow (v : SV) (p1 : Int32) : Option (Int32) :=
  fuel (fun _ _ => none) (B_X2_mendersNow_4 p1 v) FU (0 : Int32) (0 : Int32)
def B_X2_breakLeastOf_2 (x1 : Int32) (x2 : Int32) (v : SV) (rec : Int32 → Option (SV)) : Int32 → Option (SV) := fun x3 =>
  if (sTh v) ≤ x3 then some v else chk x3 9 (if ((sOw v) (Int32.toNatClampNeg x3)) = x1 then bnd1 (M_X2_isWhole v x3) fun r22 => if r22 = 0 then rec (x3 + 1) else chk x3 9 (some (sUBr v (upd (sBr v) (Int32.toNatClampNeg x3) x2))) else rec (x3 + 1))
def M_X2_breakLeastOf (v : SV) (p1 : Int32) (p2 : Int32) : Option (SV) :=
  fuel (fun _ => none) (B_X2_breakLeastOf_2 p1 p2 v) FU (0 : Int32)
def B_X2_breakerOfLeast_2 (x1 : Int32) (v : SV) (rec : Int32 → Option (Int32)) : Int32 → Option (Int32) := fun x2 =>
  if (sTh v) ≤ x2 then some (-9 : Int32) else chk x2 9 (if ((sOw v) (Int32.toNatClampNeg x2)) = x1 then bnd1 (M_X2_isByAnother v x2) fun r22 => if r22 = 0 then rec (x2 + 1) else chk x2 9 (some ((sBr v) (Int32.toNatClampNeg x2))) else rec (x2 + 1))
def M_X2_breakerOfLeast (v : SV) (p1 : Int32) : Option (Int32) :=
  fuel (fun _ => none) (B_X2_breakerOfLeast_2 p1 v) FU (0 : Int32)
def B_X2_hasBrokenOf_2 (x1 : Int32) (x2 : Int32) (v : SV) (rec : Int32 → Option (Int32)) : Int32 → Option (Int32) := fun x3 =>
  if (sTh v) ≤ x3 then some (0 : Int32) else chk x3 9 (if ((sBr v) (Int32.toNatClampNeg x3)) = x1 then chk x3 9 (if ((sOw v) (Int32.toNatClampNeg x3)) = x2 then some (1 : Int32) else rec (x3 + 1)) else rec (x3 + 1))
def M_X2_hasBrokenOf (v : SV) (p1 : Int32) (p2 : Int32) : Option (Int32) :=
  fuel (fun _ => none) (B_X2_hasBrokenOf_2 p1 p2 v) FU (0 : Int32)
def B_X2_ownedBy_4 (x1 : Int32) (v : SV) (rec : Int32 → Int32 → Option (Int32)) : Int32 → Int32 → Option (Int32) := fun x2 x3 =>
  if (sTh v) ≤ x3 then some x2 else chk x3 9 (if ((sOw v) (Int32.toNatClampNeg x3)) = x1 then rec (x2 + (1 : Int32)) (x3 + 1) else rec (x2 + (0 : Int32)) (x3 + 1))
def M_X2_ownedBy (v : SV) (p1 : Int32) : Option (Int32) :=
  fuel (fun _ _ => none) (B_X2_ownedBy_4 p1 v) FU (0 : Int32) (0 : Int32)
def B_X2_brokenBy_4 (x1 : Int32) (v : SV) (rec : Int32 → Int32 → Option (Int32)) : Int32 → Int32 → Option (Int32) := fun x2 x3 =>
  if (sTh v) ≤ x3 then some x2 else chk x3 9 (if ((sBr v) (Int32.toNatClampNeg x3)) = x1 then rec (x2 + (1 : Int32)) (x3 + 1) else rec (x2 + (0 : Int32)) (x3 + 1))
def M_X2_brokenBy (v : SV) (p1 : Int32) : Option (Int32) :=
  fuel (fun _ _ => none) (B_X2_brokenBy_4 p1 v) FU (0 : Int32) (0 : Int32)
def B_X2_wholeOf_4 (x1 : Int32) (v : SV) (rec : Int32 → Int32 → Option (Int32)) : Int32 → Int32 → Option (Int32) := fun x2 x3 =>
  if (sTh v) ≤ x3 then some x2 else chk x3 9 (if ((sOw v) (Int32.toNatClampNeg x3)) = x1 then bnd1 (M_X2_isWhole v x3) fun r25 => if r25 = 0 then rec (x2 + (0 : Int32)) (x3 + 1) else rec (x2 + (1 : Int32)) (x3 + 1) else rec (x2 + (0 : Int32)) (x3 + 1))
def M_X2_wholeOf (v : SV) (p1 : Int32) : Option (Int32) :=
  fuel (fun _ _ => none) (B_X2_wholeOf_4 p1 v) FU (0 : Int32) (0 : Int32)
def B_X2_riches_4 (x1 : Int32) (v : SV) (rec : Int32 → Int32 → Option (Int32)) : Int32 → Int32 → Option (Int32) := fun x2 x3 =>
  if (sTh v) ≤ x3 then some x2 else chk x3 9 (if ((sOw v) (Int32.toNatClampNeg x3)) = x1 then bnd1 (M_X2_isWhole v x3) fun r25 => if r25 = 0 then rec (x2 + (0 : Int32)) (x3 + 1) else chk x3 9 (rec (x2 + ((sFi v) (Int32.toNatClampNeg x3))) (x3 + 1)) else rec (x2 + (0 : Int32)) (x3 + 1))
def M_X2_riches (v : SV) (p1 : Int32) : Option (Int32) :=
  fuel (fun _ _ => none) (B_X2_riches_4 p1 v) FU (0 : Int32) (0 : Int32)
def B_X2_wholeBits_4 (v : SV) (rec : Int32 → Int32 → Option (Int32)) : Int32 → Int32 → Option (Int32) := fun x1 x2 =>
  if (sTh v) ≤ x2 then some x1 else bnd1 (M_X2_isWhole v x2) fun r15 => if r15 = 0 then rec (x1 ||| (0 : Int32)) (x2 + 1) else rec (x1 ||| ((1 : Int32) <<< (x2 &&& 31))) (x2 + 1)
def M_X2_wholeBits (v : SV) : Option (Int32) :=
  fuel (fun _ _ => none) (B_X2_wholeBits_4 v) FU (0 : Int32) (0 : Int32)
def M_J6_bitCount_0f7a4 (p0 : Int32) : Option (Int32) :=
  some ((((((((p0 - (((Int32.toUInt32 p0 >>> (Int32.toUInt32 (1 : Int32) &&& Int32.toUInt32 31)).toInt32) &&& (1431655765 : Int32))) &&& (858993459 : Int32)) + (((Int32.toUInt32 (p0 - (((Int32.toUInt32 p0 >>> (Int32.toUInt32 (1 : Int32) &&& Int32.toUInt32 31)).toInt32) &&& (1431655765 : Int32))) >>> (Int32.toUInt32 (2 : Int32) &&& Int32.toUInt32 31)).toInt32) &&& (858993459 : Int32))) + ((Int32.toUInt32 (((p0 - (((Int32.toUInt32 p0 >>> (Int32.toUInt32 (1 : Int32) &&& Int32.toUInt32 31)).toInt32) &&& (1431655765 : Int32))) &&& (858993459 : Int32)) + (((Int32.toUInt32 (p0 - (((Int32.toUInt32 p0 >>> (Int32.toUInt32 (1 : Int32) &&& Int32.toUInt32 31)).toInt32) &&& (1431655765 : Int32))) >>> (Int32.toUInt32 (2 : Int32) &&& Int32.toUInt32 31)).toInt32) &&& (858993459 : Int32))) >>> (Int32.toUInt32 (4 : Int32) &&& Int32.toUInt32 31)).toInt32)) &&& (252645135 : Int32)) + ((Int32.toUInt32 (((((p0 - (((Int32.toUInt32 p0 >>> (Int32.toUInt32 (1 : Int32) &&& Int32.toUInt32 31)).toInt32) &&& (1431655765 : Int32))) &&& (858993459 : Int32)) + (((Int32.toUInt32 (p0 - (((Int32.toUInt32 p0 >>> (Int32.toUInt32 (1 : Int32) &&& Int32.toUInt32 31)).toInt32) &&& (1431655765 : Int32))) >>> (Int32.toUInt32 (2 : Int32) &&& Int32.toUInt32 31)).toInt32) &&& (858993459 : Int32))) + ((Int32.toUInt32 (((p0 - (((Int32.toUInt32 p0 >>> (Int32.toUInt32 (1 : Int32) &&& Int32.toUInt32 31)).toInt32) &&& (1431655765 : Int32))) &&& (858993459 : Int32)) + (((Int32.toUInt32 (p0 - (((Int32.toUInt32 p0 >>> (Int32.toUInt32 (1 : Int32) &&& Int32.toUInt32 31)).toInt32) &&& (1431655765 : Int32))) >>> (Int32.toUInt32 (2 : Int32) &&& Int32.toUInt32 31)).toInt32) &&& (858993459 : Int32))) >>> (Int32.toUInt32 (4 : Int32) &&& Int32.toUInt32 31)).toInt32)) &&& (252645135 : Int32)) >>> (Int32.toUInt32 (8 : Int32) &&& Int32.toUInt32 31)).toInt32)) + ((Int32.toUInt32 ((((((p0 - (((Int32.toUInt32 p0 >>> (Int32.toUInt32 (1 : Int32) &&& Int32.toUInt32 31)).toInt32) &&& (1431655765 : Int32))) &&& (858993459 : Int32)) + (((Int32.toUInt32 (p0 - (((Int32.toUInt32 p0 >>> (Int32.toUInt32 (1 : Int32) &&& Int32.toUInt32 31)).toInt32) &&& (1431655765 : Int32))) >>> (Int32.toUInt32 (2 : Int32) &&& Int32.toUInt32 31)).toInt32) &&& (858993459 : Int32))) + ((Int32.toUInt32 (((p0 - (((Int32.toUInt32 p0 >>> (Int32.toUInt32 (1 : Int32) &&& Int32.toUInt32 31)).toInt32) &&& (1431655765 : Int32))) &&& (858993459 : Int32)) + (((Int32.toUInt32 (p0 - (((Int32.toUInt32 p0 >>> (Int32.toUInt32 (1 : Int32) &&& Int32.toUInt32 31)).toInt32) &&& (1431655765 : Int32))) >>> (Int32.toUInt32 (2 : Int32) &&& Int32.toUInt32 31)).toInt32) &&& (858993459 : Int32))) >>> (Int32.toUInt32 (4 : Int32) &&& Int32.toUInt32 31)).toInt32)) &&& (252645135 : Int32)) + ((Int32.toUInt32 (((((p0 - (((Int32.toUInt32 p0 >>> (Int32.toUInt32 (1 : Int32) &&& Int32.toUInt32 31)).toInt32) &&& (1431655765 : Int32))) &&& (858993459 : Int32)) + (((Int32.toUInt32 (p0 - (((Int32.toUInt32 p0 >>> (Int32.toUInt32 (1 : Int32) &&& Int32.toUInt32 31)).toInt32) &&& (1431655765 : Int32))) >>> (Int32.toUInt32 (2 : Int32) &&& Int32.toUInt32 31)).toInt32) &&& (858993459 : Int32))) + ((Int32.toUInt32 (((p0 - (((Int32.toUInt32 p0 >>> (Int32.toUInt32 (1 : Int32) &&& Int32.toUInt32 31)).toInt32) &&& (1431655765 : Int32))) &&& (858993459 : Int32)) + (((Int32.toUInt32 (p0 - (((Int32.toUInt32 p0 >>> (Int32.toUInt32 (1 : Int32) &&& Int32.toUInt32 31)).toInt32) &&& (1431655765 : Int32))) >>> (Int32.toUInt32 (2 : Int32) &&& Int32.toUInt32 31)).toInt32) &&& (858993459 : Int32))) >>> (Int32.toUInt32 (4 : Int32) &&& Int32.toUInt32 31)).toInt32)) &&& (252645135 : Int32)) >>> (Int32.toUInt32 (8 : Int32) &&& Int32.toUInt32 31)).toInt32)) >>> (Int32.toUInt32 (16 : Int32) &&& Int32.toUInt32 31)).toInt32)) &&& (63 : Int32))
def M_X2_wholeCount (v : SV) : Option (Int32) :=
  bnd1 (M_X2_wholeBits v) fun r1 => bnd1 (M_J6_bitCount_0f7a4 r1) fun r4 => some r4
def B_X2_mournedBits_4 (v : SV) (rec : Int32 → Int32 → Option (Int32)) : Int32 → Int32 → Option (Int32) := fun x1 x2 =>
  if (sTh v) ≤ x2 then some x1 else bnd1 (M_X2_isMourned v x2) fun r15 => if r15 = 0 then rec (x1 ||| (0 : Int32)) (x2 + 1) else rec (x1 ||| ((1 : Int32) <<< (x2 &&& 31))) (x2 + 1)
def M_X2_mournedBits (v : SV) : Option (Int32) :=
  fuel (fun _ _ => none) (B_X2_mournedBits_4 v) FU (0 : Int32) (0 : Int32)
def B_X2_wearOfWhole_4 (v : SV) (rec : Int32 → Int32 → Option (Int32)) : Int32 → Int32 → Option (Int32) := fun x1 x2 =>
  if (sTh v) ≤ x2 then some x1 else bnd1 (M_X2_isWhole v x2) fun r15 => if r15 = 0 then rec (x1 + (0 : Int32)) (x2 + 1) else chk x2 9 (rec (x1 + ((sWe v) (Int32.toNatClampNeg x2))) (x2 + 1))
def M_X2_wearOfWhole (v : SV) : Option (Int32) :=
  fuel (fun _ _ => none) (B_X2_wearOfWhole_4 v) FU (0 : Int32) (0 : Int32)
def B_X2_wearOfAll_4 (v : SV) (rec : Int32 → Int32 → Option (Int32)) : Int32 → Int32 → Option (Int32) := fun x1 x2 =>
  if (sTh v) ≤ x2 then some x1 else chk x2 9 (rec (x1 + ((sWe v) (Int32.toNatClampNeg x2))) (x2 + 1))
def M_X2_wearOfAll (v : SV) : Option (Int32) :=
  fuel (fun _ _ => none) (B_X2_wearOfAll_4 v) FU (0 : Int32) (0 : Int32)
def B_X2_mendedByAll_4 (v : SV) (rec : Int32 → Int32 → Option (Int32)) : Int32 → Int32 → Option (Int32) := fun x1 x2 =>
  if (sPe v) ≤ x2 then some x1 else chk x2 6 (rec (x1 + ((sMe v) (Int32.toNatClampNeg x2))) (x2 + 1))
def M_X2_mendedByAll (v : SV) : Option (Int32) :=
  fuel (fun _ _ => none) (B_X2_mendedByAll_4 v) FU (0 : Int32) (0 : Int32)
