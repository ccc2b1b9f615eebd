/-! ===== the methods as functions, by my program out of the decode rows ===== -/
def fX0_untell_b32 (N : Nat) (t : Nat) (k32 : Int32 → zMem → Int64 → zR) (x1 : Int32) (G : zMem) (tr : Int64) : zR :=
  if (30 : Int32) ≤ x1 then some (0, G, tr) else zin x1 30 (k32 (x1 + 1) (up2 G (t + 2) (Int32.toNatClampNeg x1) (-9 : Int32)) tr)
def fX0_untell_L32 (N : Nat) (t : Nat) : Nat → Int32 → zMem → Int64 → zR
  | 0, _, _, _ => none
  | n + 1, x1, G, tr => fX0_untell_b32 N t (fX0_untell_L32 N t n) x1 G tr
def fX0_untell (N : Nat) (t : Nat) (G : zMem) (tr : Int64) : zR :=
  fX0_untell_L32 N t N (0 : Int32) (up2 (up2 (up2 (up2 (up2 (up2 G t 0 (4 : Int32)) t 1 (4 : Int32)) t 2 (3 : Int32)) t 3 (0 : Int32)) t 4 (0 : Int32)) t 5 (0 : Int32)) tr
def fX0_cells (N : Nat) (t : Nat) (G : zMem) (tr : Int64) : zR :=
  some ((if (30 : Int32) < ((G t 0) * (G t 1)) then (30 : Int32) else ((G t 0) * (G t 1))), G, tr)
def fX0_cellOfIsle (N : Nat) (t : Nat) (a1 : Int32) (G : zMem) (tr : Int64) : zR :=
  if a1 < 0 then some ((0 : Int32), G, tr) else if (6 : Int32) ≤ a1 then some ((0 : Int32), G, tr) else zin a1 6 (some ((G (t + 1) (Int32.toNatClampNeg a1)), G, tr))
def fX0_onCell (N : Nat) (t : Nat) (a1 : Int32) (G : zMem) (tr : Int64) : zR :=
  if a1 < 0 then some ((-9 : Int32), G, tr) else if (30 : Int32) ≤ a1 then some ((-9 : Int32), G, tr) else zin a1 30 (some ((G (t + 2) (Int32.toNatClampNeg a1)), G, tr))
def fX0_addIsle (N : Nat) (t : Nat) (a1 : Int32) (G : zMem) (tr : Int64) : zR :=
  if (6 : Int32) ≤ (G t 3) then some (0, G, tr) else if a1 < 0 then some (0, G, tr) else if a1 < (30 : Int32) then zin (G t 3) 6 (zin a1 30 (some (0, (up2 (up2 (up2 G (t + 1) (Int32.toNatClampNeg (G t 3)) a1) (t + 2) (Int32.toNatClampNeg a1) ((up2 G (t + 1) (Int32.toNatClampNeg (G t 3)) a1) t 3)) t 3 (((up2 (up2 G (t + 1) (Int32.toNatClampNeg (G t 3)) a1) (t + 2) (Int32.toNatClampNeg a1) ((up2 G (t + 1) (Int32.toNatClampNeg (G t 3)) a1) t 3)) t 3) + (1 : Int32))), tr))) else some (0, G, tr)
def fX0_addHill (N : Nat) (t : Nat) (a1 : Int32) (G : zMem) (tr : Int64) : zR :=
  if a1 < 0 then some (0, G, tr) else if a1 < (30 : Int32) then zin a1 30 (some (0, (up2 (up2 G (t + 2) (Int32.toNatClampNeg a1) (-5 : Int32)) t 4 (((up2 G (t + 2) (Int32.toNatClampNeg a1) (-5 : Int32)) t 4) + (1 : Int32))), tr)) else some (0, G, tr)
def fX0_addWind (N : Nat) (t : Nat) (a1 : Int32) (G : zMem) (tr : Int64) : zR :=
  if (G t 5) < (12 : Int32) then zin (G t 5) 12 (some (0, (up2 (up2 G (t + 3) (Int32.toNatClampNeg (G t 5)) a1) t 5 (((up2 G (t + 3) (Int32.toNatClampNeg (G t 5)) a1) t 5) + (1 : Int32))), tr)) else some (0, G, tr)
def fX0_beside (N : Nat) (t : Nat) (a1 : Int32) (a2 : Int32) (G : zMem) (tr : Int64) : zR :=
  if (1 : Int32) ≤ (G t 0) then zdv (G t 0) (if a2 = 0 then if a1 < (G t 0) then some (((a1 - (G t 0)) + ((G t 0) * (G t 1))), G, tr) else some ((a1 - (G t 0)), G, tr) else if a2 = 1 then if ((G t 0) - (1 : Int32)) ≤ (a1 - a1 / (G t 0) * (G t 0)) then some ((a1 - (a1 - a1 / (G t 0) * (G t 0))), G, tr) else some ((a1 + (1 : Int32)), G, tr) else if a2 = 2 then if (((G t 0) * (G t 1)) - (G t 0)) ≤ a1 then some (((a1 + (G t 0)) - ((G t 0) * (G t 1))), G, tr) else some ((a1 + (G t 0)), G, tr) else if a2 = 3 then if (a1 - a1 / (G t 0) * (G t 0)) ≤ 0 then some (((a1 + (G t 0)) - (1 : Int32)), G, tr) else some ((a1 - (1 : Int32)), G, tr) else some (a1, G, tr)) else some (a1, G, tr)
def fX0_drawWay_b40 (N : Nat) (t : Nat) (a1 : Int32) (a2 : Int32) (k8 : Int32 → Int32 → Int32 → zMem → Int64 → zR) (x3 : Int32) (x4 : Int32) (x5 : Int32) (G : zMem) (tr : Int64) : zR :=
  zin (((((x5 - (1 : Int32)) * (4 : Int32)) + a1) * (30 : Int32)) + a2) 600 (k8 x3 x4 (x5 + 1) (up2 G (t + 4) (Int32.toNatClampNeg (((((x5 - (1 : Int32)) * (4 : Int32)) + a1) * (30 : Int32)) + a2)) x4) tr)
def fX0_drawWay_b8 (N : Nat) (t : Nat) (a1 : Int32) (a2 : Int32) (k8 : Int32 → Int32 → Int32 → zMem → Int64 → zR) (x3 : Int32) (x4 : Int32) (x5 : Int32) (G : zMem) (tr : Int64) : zR :=
  if (5 : Int32) < x5 then some (0, G, tr) else zbd (fX0_beside N t x3 a1 G tr) (fun r_3 G_4 tr_5 => zbd (fX0_onCell N t r_3 G_4 tr_5) (fun r_7 G_8 tr_9 => if r_7 = (-5 : Int32) then fX0_drawWay_b40 N t a1 a2 k8 x3 x4 x5 G_8 tr_9 else fX0_drawWay_b40 N t a1 a2 k8 r_3 r_3 x5 G_8 tr_9))
def fX0_drawWay_L8 (N : Nat) (t : Nat) (a1 : Int32) (a2 : Int32) : Nat → Int32 → Int32 → Int32 → zMem → Int64 → zR
  | 0, _, _, _, _, _ => none
  | n + 1, x3, x4, x5, G, tr => fX0_drawWay_b8 N t a1 a2 (fX0_drawWay_L8 N t a1 a2 n) x3 x4 x5 G tr
def fX0_drawWay (N : Nat) (t : Nat) (a1 : Int32) (a2 : Int32) (G : zMem) (tr : Int64) : zR :=
  fX0_drawWay_L8 N t a1 a2 N a2 (-1 : Int32) (1 : Int32) G tr
def fX0_drawEnds_b9 (N : Nat) (t : Nat) (k2 : Int32 → zMem → Int64 → zR) (k9 : Int32 → Int32 → zMem → Int64 → zR) (x1 : Int32) (x2 : Int32) (G : zMem) (tr : Int64) : zR :=
  zbd (fX0_cells N t G tr) (fun r_2 G_3 tr_4 => if r_2 ≤ x2 then k2 (x1 + 1) G_3 tr_4 else zbd (fX0_drawWay N t x1 x2 G_3 tr_4) (fun r_7 G_8 tr_9 => k9 x1 (x2 + 1) G_8 tr_9))
def fX0_drawEnds_L9 (N : Nat) (t : Nat) (k2 : Int32 → zMem → Int64 → zR) : Nat → Int32 → Int32 → zMem → Int64 → zR
  | 0, _, _, _, _ => none
  | n + 1, x1, x2, G, tr => fX0_drawEnds_b9 N t k2 (fX0_drawEnds_L9 N t k2 n) x1 x2 G tr
def fX0_drawEnds_b2 (N : Nat) (t : Nat) (k2 : Int32 → zMem → Int64 → zR) (x1 : Int32) (G : zMem) (tr : Int64) : zR :=
  if (4 : Int32) ≤ x1 then some (0, G, tr) else fX0_drawEnds_L9 N t k2 N x1 (0 : Int32) G tr
def fX0_drawEnds_L2 (N : Nat) (t : Nat) : Nat → Int32 → zMem → Int64 → zR
  | 0, _, _, _ => none
  | n + 1, x1, G, tr => fX0_drawEnds_b2 N t (fX0_drawEnds_L2 N t n) x1 G tr
def fX0_drawEnds (N : Nat) (t : Nat) (G : zMem) (tr : Int64) : zR :=
  fX0_drawEnds_L2 N t N (0 : Int32) G tr
def fX0_endOf (N : Nat) (t : Nat) (a1 : Int32) (a2 : Int32) (a3 : Int32) (G : zMem) (tr : Int64) : zR :=
  if a1 < (1 : Int32) then some ((-1 : Int32), G, tr) else if (5 : Int32) < a1 then some ((-1 : Int32), G, tr) else if a2 < 0 then some ((-1 : Int32), G, tr) else if a2 < (4 : Int32) then if a3 < 0 then some ((-1 : Int32), G, tr) else if a3 < (30 : Int32) then zin (((((a1 - (1 : Int32)) * (4 : Int32)) + a2) * (30 : Int32)) + a3) 600 (some ((G (t + 4) (Int32.toNatClampNeg (((((a1 - (1 : Int32)) * (4 : Int32)) + a2) * (30 : Int32)) + a3))), G, tr)) else some ((-1 : Int32), G, tr) else some ((-1 : Int32), G, tr)
def fX1_letUp (N : Nat) (t : Nat) (a1 : Nat) (a2 : Int32) (a3 : Int32) (a4 : Int32) (G : zMem) (tr : Int64) : zR :=
  zbd (fX0_cellOfIsle N a1 a2 (up2 (up2 (up2 G t 0 a4) t 1 a2) t 2 a3) tr) (fun r_2 G_3 tr_4 => some (0, (up2 (up2 (up2 (up2 G_3 t 3 r_2) t 4 ((1 : Int32) <<< (a2 &&& 31))) t 5 (0 : Int32)) t 6 (((up2 (up2 (up2 G_3 t 3 r_2) t 4 ((1 : Int32) <<< (a2 &&& 31))) t 5 (0 : Int32)) a1 2) - a4)), tr_4))
def fX1_copyFrom (N : Nat) (t : Nat) (a1 : Nat) (G : zMem) (tr : Int64) : zR :=
  some (0, (up2 (up2 (up2 (up2 (up2 (up2 (up2 G t 0 (G a1 0)) t 1 ((up2 G t 0 (G a1 0)) a1 1)) t 2 ((up2 (up2 G t 0 (G a1 0)) t 1 ((up2 G t 0 (G a1 0)) a1 1)) a1 2)) t 3 ((up2 (up2 (up2 G t 0 (G a1 0)) t 1 ((up2 G t 0 (G a1 0)) a1 1)) t 2 ((up2 (up2 G t 0 (G a1 0)) t 1 ((up2 G t 0 (G a1 0)) a1 1)) a1 2)) a1 3)) t 4 ((up2 (up2 (up2 (up2 G t 0 (G a1 0)) t 1 ((up2 G t 0 (G a1 0)) a1 1)) t 2 ((up2 (up2 G t 0 (G a1 0)) t 1 ((up2 G t 0 (G a1 0)) a1 1)) a1 2)) t 3 ((up2 (up2 (up2 G t 0 (G a1 0)) t 1 ((up2 G t 0 (G a1 0)) a1 1)) t 2 ((up2 (up2 G t 0 (G a1 0)) t 1 ((up2 G t 0 (G a1 0)) a1 1)) a1 2)) a1 3)) a1 4)) t 5 ((up2 (up2 (up2 (up2 (up2 G t 0 (G a1 0)) t 1 ((up2 G t 0 (G a1 0)) a1 1)) t 2 ((up2 (up2 G t 0 (G a1 0)) t 1 ((up2 G t 0 (G a1 0)) a1 1)) a1 2)) t 3 ((up2 (up2 (up2 G t 0 (G a1 0)) t 1 ((up2 G t 0 (G a1 0)) a1 1)) t 2 ((up2 (up2 G t 0 (G a1 0)) t 1 ((up2 G t 0 (G a1 0)) a1 1)) a1 2)) a1 3)) t 4 ((up2 (up2 (up2 (up2 G t 0 (G a1 0)) t 1 ((up2 G t 0 (G a1 0)) a1 1)) t 2 ((up2 (up2 G t 0 (G a1 0)) t 1 ((up2 G t 0 (G a1 0)) a1 1)) a1 2)) t 3 ((up2 (up2 (up2 G t 0 (G a1 0)) t 1 ((up2 G t 0 (G a1 0)) a1 1)) t 2 ((up2 (up2 G t 0 (G a1 0)) t 1 ((up2 G t 0 (G a1 0)) a1 1)) a1 2)) a1 3)) a1 4)) a1 5)) t 6 ((up2 (up2 (up2 (up2 (up2 (up2 G t 0 (G a1 0)) t 1 ((up2 G t 0 (G a1 0)) a1 1)) t 2 ((up2 (up2 G t 0 (G a1 0)) t 1 ((up2 G t 0 (G a1 0)) a1 1)) a1 2)) t 3 ((up2 (up2 (up2 G t 0 (G a1 0)) t 1 ((up2 G t 0 (G a1 0)) a1 1)) t 2 ((up2 (up2 G t 0 (G a1 0)) t 1 ((up2 G t 0 (G a1 0)) a1 1)) a1 2)) a1 3)) t 4 ((up2 (up2 (up2 (up2 G t 0 (G a1 0)) t 1 ((up2 G t 0 (G a1 0)) a1 1)) t 2 ((up2 (up2 G t 0 (G a1 0)) t 1 ((up2 G t 0 (G a1 0)) a1 1)) a1 2)) t 3 ((up2 (up2 (up2 G t 0 (G a1 0)) t 1 ((up2 G t 0 (G a1 0)) a1 1)) t 2 ((up2 (up2 G t 0 (G a1 0)) t 1 ((up2 G t 0 (G a1 0)) a1 1)) a1 2)) a1 3)) a1 4)) t 5 ((up2 (up2 (up2 (up2 (up2 G t 0 (G a1 0)) t 1 ((up2 G t 0 (G a1 0)) a1 1)) t 2 ((up2 (up2 G t 0 (G a1 0)) t 1 ((up2 G t 0 (G a1 0)) a1 1)) a1 2)) t 3 ((up2 (up2 (up2 G t 0 (G a1 0)) t 1 ((up2 G t 0 (G a1 0)) a1 1)) t 2 ((up2 (up2 G t 0 (G a1 0)) t 1 ((up2 G t 0 (G a1 0)) a1 1)) a1 2)) a1 3)) t 4 ((up2 (up2 (up2 (up2 G t 0 (G a1 0)) t 1 ((up2 G t 0 (G a1 0)) a1 1)) t 2 ((up2 (up2 G t 0 (G a1 0)) t 1 ((up2 G t 0 (G a1 0)) a1 1)) a1 2)) t 3 ((up2 (up2 (up2 G t 0 (G a1 0)) t 1 ((up2 G t 0 (G a1 0)) a1 1)) t 2 ((up2 (up2 G t 0 (G a1 0)) t 1 ((up2 G t 0 (G a1 0)) a1 1)) a1 2)) a1 3)) a1 4)) a1 5)) a1 6)), tr)
def fX4_bitOf (N : Nat) (a0 : Int32) (a1 : Int32) : Option Int32 :=
  some ((a0 >>> (a1 &&& 31)) &&& (1 : Int32))
def fX1_passHour_b75 (N : Nat) (t : Nat) (a1 : Nat) (a2 : Int32) (a3 : Int32) (x5 : Int32) (G : zMem) (tr : Int64) : zR :=
  if x5 = ((up2 G t 4 ((G t 4) ||| ((1 : Int32) <<< (x5 &&& 31)))) t 2) then some (0, (up2 (up2 G t 4 ((G t 4) ||| ((1 : Int32) <<< (x5 &&& 31)))) t 5 (1 : Int32)), tr) else some (0, (up2 G t 4 ((G t 4) ||| ((1 : Int32) <<< (x5 &&& 31)))), tr)
def fX1_passHour (N : Nat) (t : Nat) (a1 : Nat) (a2 : Int32) (a3 : Int32) (G : zMem) (tr : Int64) : zR :=
  if (G t 5) = 0 then zbd (fX0_endOf N a1 (G t 6) a2 (G t 3) G tr) (fun r_3 G_4 tr_5 => if r_3 = (-1 : Int32) then some (0, G_4, tr_5) else zbd (fX0_onCell N a1 r_3 (up2 G_4 t 3 r_3) tr_5) (fun r_8 G_9 tr_10 => if 0 ≤ r_8 then if r_8 = (G_9 t 2) then fX1_passHour_b75 N t a1 a2 a3 r_8 G_9 tr_10 else zbp (fX4_bitOf N a3 r_8) (fun r_14 => if r_14 = (1 : Int32) then some (0, (up2 G_9 t 5 (2 : Int32)), tr_10) else fX1_passHour_b75 N t a1 a2 a3 r_8 G_9 tr_10) else some (0, G_9, tr_10))) else some (0, G, tr)
def fX2_beginAnew_b25 (N : Nat) (t : Nat) (a1 : Nat) (k25 : Int32 → zMem → Int64 → zR) (x2 : Int32) (G : zMem) (tr : Int64) : zR :=
  if (12 : Int32) ≤ x2 then some (0, G, tr) else zin x2 12 (zin x2 12 (k25 (x2 + 1) (up2 G (t + 1) (Int32.toNatClampNeg x2) (G (a1 + 3) (Int32.toNatClampNeg x2))) tr))
def fX2_beginAnew_L25 (N : Nat) (t : Nat) (a1 : Nat) : Nat → Int32 → zMem → Int64 → zR
  | 0, _, _, _ => none
  | n + 1, x2, G, tr => fX2_beginAnew_b25 N t a1 (fX2_beginAnew_L25 N t a1 n) x2 G tr
def fX2_beginAnew (N : Nat) (t : Nat) (a1 : Nat) (G : zMem) (tr : Int64) : zR :=
  fX2_beginAnew_L25 N t a1 N (0 : Int32) (up2 (up2 (up2 (up2 G t 0 (0 : Int32)) t 1 (0 : Int32)) t 2 (0 : Int32)) t 3 ((up2 (up2 (up2 G t 0 (0 : Int32)) t 1 (0 : Int32)) t 2 (0 : Int32)) a1 5)) tr
def fX2_copyFrom_b60 (N : Nat) (t : Nat) (a1 : Nat) (k60 : Int32 → zMem → Int64 → zR) (x2 : Int32) (G : zMem) (tr : Int64) : zR :=
  if (5 : Int32) ≤ x2 then some (0, G, tr) else zin x2 5 (zin x2 5 (zbd (fX1_copyFrom N ((t + 3) + (Int32.toNatClampNeg x2)) ((a1 + 3) + (Int32.toNatClampNeg x2)) G tr) (fun r_5 G_6 tr_7 => k60 (x2 + 1) G_6 tr_7)))
def fX2_copyFrom_L60 (N : Nat) (t : Nat) (a1 : Nat) : Nat → Int32 → zMem → Int64 → zR
  | 0, _, _, _ => none
  | n + 1, x2, G, tr => fX2_copyFrom_b60 N t a1 (fX2_copyFrom_L60 N t a1 n) x2 G tr
def fX2_copyFrom_b34 (N : Nat) (t : Nat) (a1 : Nat) (k34 : Int32 → zMem → Int64 → zR) (x2 : Int32) (G : zMem) (tr : Int64) : zR :=
  if (12 : Int32) ≤ x2 then fX2_copyFrom_L60 N t a1 N (0 : Int32) G tr else zin x2 12 (zin x2 12 (k34 (x2 + 1) (up2 G (t + 1) (Int32.toNatClampNeg x2) (G (a1 + 1) (Int32.toNatClampNeg x2))) tr))
def fX2_copyFrom_L34 (N : Nat) (t : Nat) (a1 : Nat) : Nat → Int32 → zMem → Int64 → zR
  | 0, _, _, _ => none
  | n + 1, x2, G, tr => fX2_copyFrom_b34 N t a1 (fX2_copyFrom_L34 N t a1 n) x2 G tr
def fX2_copyFrom (N : Nat) (t : Nat) (a1 : Nat) (G : zMem) (tr : Int64) : zR :=
  fX2_copyFrom_L34 N t a1 N (0 : Int32) (up2 (up2 (up2 (up2 G t 0 (G a1 0)) t 1 ((up2 G t 0 (G a1 0)) a1 1)) t 2 ((up2 (up2 G t 0 (G a1 0)) t 1 ((up2 G t 0 (G a1 0)) a1 1)) a1 2)) t 3 ((up2 (up2 (up2 G t 0 (G a1 0)) t 1 ((up2 G t 0 (G a1 0)) a1 1)) t 2 ((up2 (up2 G t 0 (G a1 0)) t 1 ((up2 G t 0 (G a1 0)) a1 1)) a1 2)) a1 3)) tr
def fJ9_floorMod_7cf53 (N : Nat) (a0 : Int32) (a1 : Int32) : Option Int32 :=
  zdv a1 (if 0 ≤ (a0 ^^^ a1) then some (a0 - a0 / a1 * a1) else if (a0 - a0 / a1 * a1) = 0 then some (a0 - a0 / a1 * a1) else some ((a0 - a0 / a1 * a1) + a1))
def fX2_windOf (N : Nat) (t : Nat) (a1 : Int32) (G : zMem) (tr : Int64) : zR :=
  if (G t 3) < (1 : Int32) then some ((4 : Int32), G, tr) else if (G t 3) ≤ (12 : Int32) then zbp (fJ9_floorMod_7cf53 N a1 (G t 3)) (fun r_4 => zin r_4 12 (some ((G (t + 1) (Int32.toNatClampNeg r_4)), G, tr))) else some ((4 : Int32), G, tr)
def fX2_lettersUp_b35 (N : Nat) (t : Nat) (k4 : Int32 → Int32 → zMem → Int64 → zR) (x1 : Int32) (x2 : Int32) (G : zMem) (tr : Int64) : zR :=
  k4 x1 (x2 + 1) G tr
def fX2_lettersUp_b4 (N : Nat) (t : Nat) (k4 : Int32 → Int32 → zMem → Int64 → zR) (x1 : Int32) (x2 : Int32) (G : zMem) (tr : Int64) : zR :=
  if (G t 1) ≤ x2 then some (x1, G, tr) else if (5 : Int32) ≤ x2 then some (x1, G, tr) else zin x2 5 (if (G ((t + 3) + (Int32.toNatClampNeg x2)) 5) = 0 then fX2_lettersUp_b35 N t k4 (x1 ||| ((1 : Int32) <<< (x2 &&& 31))) x2 G tr else fX2_lettersUp_b35 N t k4 x1 x2 G tr)
def fX2_lettersUp_L4 (N : Nat) (t : Nat) : Nat → Int32 → Int32 → zMem → Int64 → zR
  | 0, _, _, _, _ => none
  | n + 1, x1, x2, G, tr => fX2_lettersUp_b4 N t (fX2_lettersUp_L4 N t n) x1 x2 G tr
def fX2_lettersUp (N : Nat) (t : Nat) (G : zMem) (tr : Int64) : zR :=
  fX2_lettersUp_L4 N t N (0 : Int32) (0 : Int32) G tr
def fX3_add (N : Nat) (a1 : Int32) (G : zMem) (tr : Int64) : zR :=
  if (G 1 0) < (200 : Int32) then zin (G 1 0) 200 (some (0, (up2 (up2 G 2 (Int32.toNatClampNeg (G 1 0)) a1) 1 0 (((up2 G 2 (Int32.toNatClampNeg (G 1 0)) a1) 1 0) + (1 : Int32))), tr)) else some (0, G, tr)
def fX3_isDigit (N : Nat) (a0 : Int32) : Option Int32 :=
  if a0 < (48 : Int32) then zbo (0 : Int32) (some (0 : Int32)) else if (57 : Int32) < a0 then zbo (0 : Int32) (some (0 : Int32)) else zbo (1 : Int32) (some (1 : Int32))
def fX3_isSign (N : Nat) (a0 : Int32) : Option Int32 :=
  if a0 = (103 : Int32) then zbo (1 : Int32) (some (1 : Int32)) else if a0 = (105 : Int32) then zbo (1 : Int32) (some (1 : Int32)) else if a0 = (120 : Int32) then zbo (1 : Int32) (some (1 : Int32)) else if a0 = (98 : Int32) then zbo (1 : Int32) (some (1 : Int32)) else if a0 = (102 : Int32) then zbo (1 : Int32) (some (1 : Int32)) else if a0 = (59 : Int32) then zbo (1 : Int32) (some (1 : Int32)) else zbo (0 : Int32) (some (0 : Int32))
def fX3_step_b181 (N : Nat) (s0 : Int32) (G : zMem) (tr : Int64) : zR :=
  some (0, (up2 G 1 4 s0), tr)
def fX3_step_b172 (N : Nat) (G : zMem) (tr : Int64) : zR :=
  fX3_step_b181 N (258 : Int32) G tr
def fX3_step_b157 (N : Nat) (s0 : Int32) (G : zMem) (tr : Int64) : zR :=
  if s0 = 0 then if (G 1 5) ≤ (29 : Int32) then fX3_step_b181 N (256 : Int32) G tr else fX3_step_b172 N G tr else fX3_step_b172 N G tr
def fX3_step_b156 (N : Nat) (G : zMem) (tr : Int64) : zR :=
  fX3_step_b157 N (0 : Int32) G tr
def fX3_step_b239 (N : Nat) (s0 : Int32) (G : zMem) (tr : Int64) : zR :=
  some (0, (up2 (up2 G 1 4 s0) 1 2 (((up2 G 1 4 s0) 1 2) + (1 : Int32))), tr)
def fX3_step_b119 (N : Nat) (G : zMem) (tr : Int64) : zR :=
  if ((G 1 2) - (G 1 3)) ≤ 0 then if (G 1 2) < (G 1 0) then zin (G 1 2) 200 (zbp (fX3_isSign N (G 2 (Int32.toNatClampNeg (G 1 2)))) (fun r_5 => if r_5 = 0 then fX3_step_b239 N (258 : Int32) G tr else zin (G 1 2) 200 (fX3_step_b239 N (G 2 (Int32.toNatClampNeg (G 1 2))) G tr))) else some (0, (up2 G 1 4 (257 : Int32)), tr) else if ((G 1 2) - (G 1 3)) ≤ (1 : Int32) then fX3_step_b156 N G tr else zin (G 1 3) 200 (if (G 2 (Int32.toNatClampNeg (G 1 3))) = (48 : Int32) then fX3_step_b157 N (1 : Int32) G tr else fX3_step_b156 N G tr)
def fX3_step_b51 (N : Nat) (k51 : zMem → Int64 → zR) (G : zMem) (tr : Int64) : zR :=
  if (G 1 0) ≤ (G 1 2) then fX3_step_b119 N G tr else zin (G 1 2) 200 (zbp (fX3_isDigit N (G 2 (Int32.toNatClampNeg (G 1 2)))) (fun r_4 => if r_4 = 0 then fX3_step_b119 N G tr else zin (G 1 2) 200 (k51 (up2 (up2 G 1 5 (if (30 : Int32) < ((((G 1 5) * (10 : Int32)) + (G 2 (Int32.toNatClampNeg (G 1 2)))) - (48 : Int32)) then (30 : Int32) else ((((G 1 5) * (10 : Int32)) + (G 2 (Int32.toNatClampNeg (G 1 2)))) - (48 : Int32)))) 1 2 (((up2 G 1 5 (if (30 : Int32) < ((((G 1 5) * (10 : Int32)) + (G 2 (Int32.toNatClampNeg (G 1 2)))) - (48 : Int32)) then (30 : Int32) else ((((G 1 5) * (10 : Int32)) + (G 2 (Int32.toNatClampNeg (G 1 2)))) - (48 : Int32)))) 1 2) + (1 : Int32))) tr)))
def fX3_step_L51 (N : Nat) : Nat → zMem → Int64 → zR
  | 0, _, _ => none
  | n + 1, G, tr => fX3_step_b51 N (fX3_step_L51 N n) G tr
def fX3_step_b38 (N : Nat) (G : zMem) (tr : Int64) : zR :=
  fX3_step_L51 N N (up2 (up2 G 1 3 (G 1 2)) 1 5 (0 : Int32)) tr
def fX3_step_b0 (N : Nat) (k0 : zMem → Int64 → zR) (G : zMem) (tr : Int64) : zR :=
  if (G 1 0) ≤ (G 1 2) then fX3_step_b38 N G tr else zin (G 1 2) 200 (if (G 2 (Int32.toNatClampNeg (G 1 2))) = (32 : Int32) then k0 (up2 G 1 2 ((G 1 2) + (1 : Int32))) tr else fX3_step_b38 N G tr)
def fX3_step_L0 (N : Nat) : Nat → zMem → Int64 → zR
  | 0, _, _ => none
  | n + 1, G, tr => fX3_step_b0 N (fX3_step_L0 N n) G tr
def fX3_step (N : Nat) (G : zMem) (tr : Int64) : zR :=
  fX3_step_L0 N N G tr
def fX4_isWithin (N : Nat) (a0 : Int32) (a1 : Int32) (a2 : Int32) : Option Int32 :=
  if a0 < a1 then zbo (0 : Int32) (some (0 : Int32)) else if a2 < a0 then zbo (0 : Int32) (some (0 : Int32)) else zbo (1 : Int32) (some (1 : Int32))
def fX3_stepsToNumber (N : Nat) (a1 : Int32) (a2 : Int32) (G : zMem) (tr : Int64) : zR :=
  zbd (fX3_step N G tr) (fun r_2 G_3 tr_4 => if (G_3 1 4) = (256 : Int32) then zbp (fX4_isWithin N (G_3 1 5) a1 a2) (fun r_7 => if r_7 = 0 then zbo (0 : Int32) (some ((0 : Int32), G_3, tr_4)) else zbo (1 : Int32) (some ((1 : Int32), G_3, tr_4))) else zbo (0 : Int32) (some ((0 : Int32), G_3, tr_4)))
def fX3_stepsToEnd (N : Nat) (G : zMem) (tr : Int64) : zR :=
  zbd (fX3_step N G tr) (fun r_2 G_3 tr_4 => if (G_3 1 4) = (59 : Int32) then zbo (1 : Int32) (some ((1 : Int32), G_3, tr_4)) else zbo (0 : Int32) (some ((0 : Int32), G_3, tr_4)))
def fX3_readSize (N : Nat) (a1 : Nat) (G : zMem) (tr : Int64) : zR :=
  zbd (fX3_stepsToNumber N (2 : Int32) (6 : Int32) G tr) (fun r_2 G_3 tr_4 => if r_2 = 0 then zbo (0 : Int32) (some ((0 : Int32), G_3, tr_4)) else zbd (fX3_stepsToNumber N (2 : Int32) (5 : Int32) (up2 G_3 a1 0 (G_3 1 5)) tr_4) (fun r_7 G_8 tr_9 => if r_7 = 0 then zbo (0 : Int32) (some ((0 : Int32), G_8, tr_9)) else zbd (fX3_stepsToEnd N (up2 G_8 a1 1 (G_8 1 5)) tr_9) (fun r_12 G_13 tr_14 => zbo r_12 (some (r_12, G_13, tr_14)))))
def fX3_readIsle (N : Nat) (a1 : Nat) (G : zMem) (tr : Int64) : zR :=
  zbd (fX0_cells N a1 G tr) (fun r_2 G_3 tr_4 => zbd (fX3_stepsToNumber N (0 : Int32) (r_2 - (1 : Int32)) G_3 tr_4) (fun r_6 G_7 tr_8 => if r_6 = 0 then zbo (0 : Int32) (some ((0 : Int32), G_7, tr_8)) else zbd (fX0_onCell N a1 (G_7 1 5) G_7 tr_8) (fun r_11 G_12 tr_13 => if r_11 = (-9 : Int32) then zbd (fX0_addIsle N a1 (G_12 1 5) G_12 tr_13) (fun r_16 G_17 tr_18 => zbd (fX3_stepsToEnd N G_17 tr_18) (fun r_20 G_21 tr_22 => zbo r_20 (some (r_20, G_21, tr_22)))) else zbo (0 : Int32) (some ((0 : Int32), G_12, tr_13)))))
def fX3_readHill (N : Nat) (a1 : Nat) (G : zMem) (tr : Int64) : zR :=
  zbd (fX0_cells N a1 G tr) (fun r_2 G_3 tr_4 => zbd (fX3_stepsToNumber N (0 : Int32) (r_2 - (1 : Int32)) G_3 tr_4) (fun r_6 G_7 tr_8 => if r_6 = 0 then zbo (0 : Int32) (some ((0 : Int32), G_7, tr_8)) else zbd (fX0_onCell N a1 (G_7 1 5) G_7 tr_8) (fun r_11 G_12 tr_13 => if r_11 = (-9 : Int32) then zbd (fX0_addHill N a1 (G_12 1 5) G_12 tr_13) (fun r_16 G_17 tr_18 => zbd (fX3_stepsToEnd N G_17 tr_18) (fun r_20 G_21 tr_22 => zbo r_20 (some (r_20, G_21, tr_22)))) else zbo (0 : Int32) (some ((0 : Int32), G_12, tr_13)))))
def fX3_readWinds_b27 (N : Nat) (a1 : Nat) (k2 : Int32 → zMem → Int64 → zR) (x2 : Int32) (G : zMem) (tr : Int64) : zR :=
  if (G 1 4) = (256 : Int32) then if (4 : Int32) < (G 1 5) then zbo (0 : Int32) (some ((0 : Int32), G, tr)) else if (G a1 5) < (12 : Int32) then zbd (fX0_addWind N a1 (G 1 5) G tr) (fun r_5 G_6 tr_7 => k2 (x2 + 1) G_6 tr_7) else zbo (0 : Int32) (some ((0 : Int32), G, tr)) else zbo (0 : Int32) (some ((0 : Int32), G, tr))
def fX3_readWinds_b2 (N : Nat) (a1 : Nat) (k2 : Int32 → zMem → Int64 → zR) (x2 : Int32) (G : zMem) (tr : Int64) : zR :=
  if (12 : Int32) < x2 then zbo (0 : Int32) (some ((0 : Int32), G, tr)) else zbd (fX3_step N G tr) (fun r_3 G_4 tr_5 => if x2 ≤ 0 then fX3_readWinds_b27 N a1 k2 x2 G_4 tr_5 else if (G_4 1 4) = (59 : Int32) then zbo (1 : Int32) (some ((1 : Int32), G_4, tr_5)) else fX3_readWinds_b27 N a1 k2 x2 G_4 tr_5)
def fX3_readWinds_L2 (N : Nat) (a1 : Nat) : Nat → Int32 → zMem → Int64 → zR
  | 0, _, _, _ => none
  | n + 1, x2, G, tr => fX3_readWinds_b2 N a1 (fX3_readWinds_L2 N a1 n) x2 G tr
def fX3_readWinds (N : Nat) (a1 : Nat) (G : zMem) (tr : Int64) : zR :=
  fX3_readWinds_L2 N a1 N (0 : Int32) G tr
def fX3_readForce (N : Nat) (a1 : Nat) (G : zMem) (tr : Int64) : zR :=
  zbd (fX3_stepsToNumber N (1 : Int32) (6 : Int32) G tr) (fun r_2 G_3 tr_4 => if r_2 = 0 then zbo (0 : Int32) (some ((0 : Int32), G_3, tr_4)) else zbo (1 : Int32) (zbd (fX3_stepsToEnd N (up2 (up2 G_3 a1 2 (G_3 1 5)) 1 7 (1 : Int32)) tr_4) (fun r_8 G_9 tr_10 => zbo r_8 (some (r_8, G_9, tr_10)))))
def fX3_readItem (N : Nat) (a1 : Nat) (G : zMem) (tr : Int64) : zR :=
  if (G 1 4) = 98 then zbd (fX3_readWinds N a1 G tr) (fun r_3 G_4 tr_5 => zbo r_3 (some (r_3, G_4, tr_5))) else if (G 1 4) = 102 then if (G 1 7) = 0 then zbd (fX3_readForce N a1 G tr) (fun r_9 G_10 tr_11 => if r_9 = 0 then zbo (0 : Int32) (some ((0 : Int32), G_10, tr_11)) else zbo (1 : Int32) (some ((1 : Int32), G_10, tr_11))) else zbo (0 : Int32) (some ((0 : Int32), G, tr)) else if (G 1 4) = 103 then if (G 1 6) = 0 then zbd (fX3_readSize N a1 G tr) (fun r_16 G_17 tr_18 => if r_16 = 0 then zbo (0 : Int32) (some ((0 : Int32), G_17, tr_18)) else zbo (1 : Int32) (some ((1 : Int32), G_17, tr_18))) else zbo (0 : Int32) (some ((0 : Int32), G, tr)) else if (G 1 4) = 105 then if (6 : Int32) ≤ (G a1 3) then zbo (0 : Int32) (some ((0 : Int32), G, tr)) else zbd (fX3_readIsle N a1 G tr) (fun r_23 G_24 tr_25 => if r_23 = 0 then zbo (0 : Int32) (some ((0 : Int32), G_24, tr_25)) else zbo (1 : Int32) (some ((1 : Int32), G_24, tr_25))) else if (G 1 4) = 120 then if (6 : Int32) ≤ (G a1 4) then zbo (0 : Int32) (some ((0 : Int32), G, tr)) else zbd (fX3_readHill N a1 G tr) (fun r_30 G_31 tr_32 => if r_30 = 0 then zbo (0 : Int32) (some ((0 : Int32), G_31, tr_32)) else zbo (1 : Int32) (some ((1 : Int32), G_31, tr_32))) else zbo (0 : Int32) (some ((0 : Int32), G, tr))
def fX3_readInto_b21 (N : Nat) (a1 : Nat) (k21 : Int32 → zMem → Int64 → zR) (x2 : Int32) (G : zMem) (tr : Int64) : zR :=
  if (200 : Int32) < x2 then some ((G 1 6), G, tr) else zbd (fX3_step N G tr) (fun r_3 G_4 tr_5 => if (G_4 1 4) = (257 : Int32) then some ((G_4 1 6), G_4, tr_5) else zbd (fX3_readItem N a1 G_4 tr_5) (fun r_8 G_9 tr_10 => if r_8 = 0 then some (((-10 : Int32) - (G_9 1 3)), G_9, tr_10) else k21 (x2 + 1) (up2 G_9 1 6 ((G_9 1 6) + (1 : Int32))) tr_10))
def fX3_readInto_L21 (N : Nat) (a1 : Nat) : Nat → Int32 → zMem → Int64 → zR
  | 0, _, _, _ => none
  | n + 1, x2, G, tr => fX3_readInto_b21 N a1 (fX3_readInto_L21 N a1 n) x2 G tr
def fX3_readInto (N : Nat) (a1 : Nat) (G : zMem) (tr : Int64) : zR :=
  zbd (fX0_untell N a1 G tr) (fun r_2 G_3 tr_4 => zbo (0 : Int32) (fX3_readInto_L21 N a1 N (0 : Int32) (up2 (up2 (up2 G_3 1 2 (0 : Int32)) 1 6 (0 : Int32)) 1 7 (0 : Int32)) tr_4))
def fX4_type (N : Nat) (a1 : Int32) (G : zMem) (tr : Int64) : zR :=
  zbp (fX4_isWithin N a1 (0 : Int32) (255 : Int32)) (fun r_2 => if r_2 = 0 then some ((-1 : Int32), G, tr) else if (G 1 0) < (200 : Int32) then zbd (fX3_add N a1 G tr) (fun r_6 G_7 tr_8 => some ((G_7 1 0), G_7, tr_8)) else some ((-3 : Int32), G, tr))
def fX4_clear (N : Nat) (G : zMem) (tr : Int64) : zR :=
  some ((G 1 0), (up2 G 1 0 (0 : Int32)), tr)
def fX4_sea_b69 (N : Nat) (k69 : Int32 → Int32 → zMem → Int64 → zR) (x1 : Int32) (x3 : Int32) (G : zMem) (tr : Int64) : zR :=
  if (2 : Int32) ≤ x3 then some (x1, G, tr) else zin x3 2 (zbo (0 : Int32) (k69 x1 (x3 + 1) (up2 G 17 (Int32.toNatClampNeg x3) (0 : Int32)) tr))
def fX4_sea_L69 (N : Nat) : Nat → Int32 → Int32 → zMem → Int64 → zR
  | 0, _, _, _, _ => none
  | n + 1, x1, x3, G, tr => fX4_sea_b69 N (fX4_sea_L69 N n) x1 x3 G tr
def fX4_sea (N : Nat) (G : zMem) (tr : Int64) : zR :=
  zch (G 0 2) (zbd (fX3_readInto N (G 0 2).toNatClampNeg G tr) (fun r_3 G_4 tr_5 => if 0 ≤ r_3 then zch (G_4 0 1) (zch (G_4 0 2) (zch ((up2 (up2 G_4 0 1 (G_4 0 2)) 0 2 (G_4 0 1)) 0 1) (zbd (fX0_drawEnds N ((up2 (up2 G_4 0 1 (G_4 0 2)) 0 2 (G_4 0 1)) 0 1).toNatClampNeg (up2 (up2 G_4 0 1 (G_4 0 2)) 0 2 (G_4 0 1)) tr_5) (fun r_11 G_12 tr_13 => zch ((up2 G_12 1 0 (0 : Int32)) 0 1) (zbd (fX2_beginAnew N 18 ((up2 G_12 1 0 (0 : Int32)) 0 1).toNatClampNeg (up2 G_12 1 0 (0 : Int32)) tr_13) (fun r_16 G_17 tr_18 => fX4_sea_L69 N N r_3 (0 : Int32) (up2 G_17 0 6 (0 : Int32)) tr_18)))))) else some (r_3, G_4, tr_5)))
def fX4_isIsle (N : Nat) (a1 : Int32) (G : zMem) (tr : Int64) : zR :=
  zch (G 0 1) (zbp (fX4_isWithin N a1 (0 : Int32) ((G (G 0 1).toNatClampNeg 3) - (1 : Int32))) (fun r_3 => zbo r_3 (some (r_3, G, tr))))
def fX4_isle (N : Nat) (a1 : Int32) (a2 : Int32) (G : zMem) (tr : Int64) : zR :=
  zbd (fX4_isIsle N a1 G tr) (fun r_2 G_3 tr_4 => if r_2 = 0 then some ((-1 : Int32), G_3, tr_4) else zbp (fX4_isWithin N a2 (0 : Int32) (1 : Int32)) (fun r_7 => if r_7 = 0 then some ((-1 : Int32), G_3, tr_4) else if a2 = 0 then zch (G_3 0 1) (zin a1 6 (some ((G_3 ((G_3 0 1).toNatClampNeg + 1) (Int32.toNatClampNeg a1)), G_3, tr_4))) else zbp (fX4_bitOf N (G_3 18 2) a1) (fun r_11 => some (r_11, G_3, tr_4))))
def fX4_cell (N : Nat) (a1 : Int32) (G : zMem) (tr : Int64) : zR :=
  zch (G 0 1) (zbd (fX0_cells N (G 0 1).toNatClampNeg G tr) (fun r_3 G_4 tr_5 => zbp (fX4_isWithin N a1 (0 : Int32) (r_3 - (1 : Int32))) (fun r_7 => if r_7 = 0 then some ((-1 : Int32), G_4, tr_5) else zch (G_4 0 1) (zin a1 30 (some ((G_4 ((G_4 0 1).toNatClampNeg + 2) (Int32.toNatClampNeg a1)), G_4, tr_5))))))
def fX4_wind (N : Nat) (a1 : Int32) (G : zMem) (tr : Int64) : zR :=
  zbp (fX4_isWithin N a1 (0 : Int32) (400 : Int32)) (fun r_2 => if r_2 = 0 then some ((-1 : Int32), G, tr) else zbd (fX2_windOf N 18 ((G 18 0) + a1) G tr) (fun r_5 G_6 tr_7 => some (r_5, G_6, tr_7)))
def fX4_isLetter (N : Nat) (a1 : Int32) (G : zMem) (tr : Int64) : zR :=
  zbp (fX4_isWithin N a1 (0 : Int32) ((G 18 1) - (1 : Int32))) (fun r_2 => zbo r_2 (some (r_2, G, tr)))
def fX4_letter (N : Nat) (a1 : Int32) (a2 : Int32) (G : zMem) (tr : Int64) : zR :=
  zbd (fX4_isLetter N a1 G tr) (fun r_2 G_3 tr_4 => if r_2 = 0 then some ((-1 : Int32), G_3, tr_4) else zin a1 5 (if a2 = 0 then some ((G_3 (21 + (Int32.toNatClampNeg a1)) 0), G_3, tr_4) else if a2 = 1 then some ((G_3 (21 + (Int32.toNatClampNeg a1)) 1), G_3, tr_4) else if a2 = 2 then some ((G_3 (21 + (Int32.toNatClampNeg a1)) 2), G_3, tr_4) else if a2 = 3 then some ((G_3 (21 + (Int32.toNatClampNeg a1)) 3), G_3, tr_4) else if a2 = 4 then some ((G_3 (21 + (Int32.toNatClampNeg a1)) 4), G_3, tr_4) else if a2 = 5 then some ((G_3 (21 + (Int32.toNatClampNeg a1)) 5), G_3, tr_4) else some ((-1 : Int32), G_3, tr_4)))
def fX4_now (N : Nat) (a1 : Int32) (G : zMem) (tr : Int64) : zR :=
  if a1 = 0 then some ((G 18 0), G, tr) else if a1 = 1 then some ((G 18 1), G, tr) else if a1 = 2 then zbd (fX2_lettersUp N 18 G tr) (fun r_5 G_6 tr_7 => some (r_5, G_6, tr_7)) else if a1 = 3 then some ((G 18 2), G, tr) else if a1 = 4 then some ((G 0 6), G, tr) else some ((-1 : Int32), G, tr)
def fX4_isWay (N : Nat) (a1 : Int32) (a2 : Int32) (G : zMem) (tr : Int64) : zR :=
  zbd (fX4_isIsle N a1 G tr) (fun r_2 G_3 tr_4 => if r_2 = 0 then zbo (0 : Int32) (some ((0 : Int32), G_3, tr_4)) else zbd (fX4_isIsle N a2 G_3 tr_4) (fun r_7 G_8 tr_9 => if r_7 = 0 then zbo (0 : Int32) (some ((0 : Int32), G_8, tr_9)) else if a1 = a2 then zbo (0 : Int32) (some ((0 : Int32), G_8, tr_9)) else zbo (1 : Int32) (some ((1 : Int32), G_8, tr_9))))
def fX4_isWeight (N : Nat) (a0 : Int32) : Option Int32 :=
  zbp (fX4_isWithin N a0 (1 : Int32) (5 : Int32)) (fun r_2 => zbo r_2 (some r_2))
def fX4_remember_b36 (N : Nat) (s0 : Int32) (G : zMem) (tr : Int64) : zR :=
  some (0, (up2 (up2 G 0 5 s0) 0 6 (if (10 : Int32) < (((up2 G 0 5 s0) 0 6) + (1 : Int32)) then (10 : Int32) else (((up2 G 0 5 s0) 0 6) + (1 : Int32)))), tr)
def fX4_remember (N : Nat) (G : zMem) (tr : Int64) : zR :=
  zin (G 0 5) 10 (zbd (fX2_copyFrom N (26 + 8 * (Int32.toNatClampNeg (G 0 5))) 18 G tr) (fun r_3 G_4 tr_5 => if (9 : Int32) ≤ (G_4 0 5) then fX4_remember_b36 N (0 : Int32) G_4 tr_5 else fX4_remember_b36 N ((G_4 0 5) + (1 : Int32)) G_4 tr_5))
def fX4_lets (N : Nat) (a1 : Int32) (a2 : Int32) (a3 : Int32) (G : zMem) (tr : Int64) : zR :=
  zbd (fX4_isWay N a1 a2 G tr) (fun r_2 G_3 tr_4 => if r_2 = 0 then some ((-1 : Int32), G_3, tr_4) else zbp (fX4_isWeight N a3) (fun r_7 => if r_7 = 0 then some ((-1 : Int32), G_3, tr_4) else if (G_3 18 1) < (5 : Int32) then zbd (fX4_remember N G_3 tr_4) (fun r_11 G_12 tr_13 => zin (G_12 18 1) 5 (zch (G_12 0 1) (zbd (fX1_letUp N (21 + (Int32.toNatClampNeg (G_12 18 1))) (G_12 0 1).toNatClampNeg a1 a2 a3 G_12 tr_13) (fun r_17 G_18 tr_19 => some ((G_12 18 1), (up2 G_18 18 1 ((G_18 18 1) + (1 : Int32))), tr_19))))) else some ((-3 : Int32), G_3, tr_4)))
def fX4_hour_b110 (N : Nat) (k39 : Int32 → Int32 → Int32 → zMem → Int64 → zR) (x1 : Int32) (x2 : Int32) (x3 : Int32) (G : zMem) (tr : Int64) : zR :=
  k39 x1 x2 (x3 + 1) G tr
def fX4_hour_b74 (N : Nat) (k39 : Int32 → Int32 → Int32 → zMem → Int64 → zR) (x1 : Int32) (x2 : Int32) (x3 : Int32) (x4 : Nat) (s0 : Int32) (G : zMem) (tr : Int64) : zR :=
  zch (G 0 1) (zbd (fX1_passHour N x4 (G 0 1).toNatClampNeg x1 (G 18 2) G tr) (fun r_3 G_4 tr_5 => if s0 = 0 then fX4_hour_b110 N k39 x1 x2 x3 G_4 tr_5 else if (G_4 x4 5) = (1 : Int32) then fX4_hour_b110 N k39 x1 (x2 + 1) x3 G_4 tr_5 else fX4_hour_b110 N k39 x1 x2 x3 G_4 tr_5))
def fX4_hour_b39 (N : Nat) (k39 : Int32 → Int32 → Int32 → zMem → Int64 → zR) (x1 : Int32) (x2 : Int32) (x3 : Int32) (G : zMem) (tr : Int64) : zR :=
  if (G 18 1) ≤ x3 then some (x2, (up2 G 18 0 ((G 18 0) + (1 : Int32))), tr) else zin x3 5 (if (G (21 + (Int32.toNatClampNeg x3)) 5) = 0 then fX4_hour_b74 N k39 x1 x2 x3 (21 + (Int32.toNatClampNeg x3)) (1 : Int32) G tr else fX4_hour_b74 N k39 x1 x2 x3 (21 + (Int32.toNatClampNeg x3)) (0 : Int32) G tr)
def fX4_hour_L39 (N : Nat) : Nat → Int32 → Int32 → Int32 → zMem → Int64 → zR
  | 0, _, _, _, _, _ => none
  | n + 1, x1, x2, x3, G, tr => fX4_hour_b39 N (fX4_hour_L39 N n) x1 x2 x3 G tr
def fX4_hour (N : Nat) (G : zMem) (tr : Int64) : zR :=
  if (G 18 0) < (9999 : Int32) then zbd (fX4_remember N G tr) (fun r_3 G_4 tr_5 => zbd (fX2_windOf N 18 (G_4 18 0) G_4 tr_5) (fun r_7 G_8 tr_9 => fX4_hour_L39 N N r_7 (0 : Int32) (0 : Int32) G_8 tr_9)) else some ((-2 : Int32), G, tr)
def fX4_net_b71 (N : Nat) (a1 : Int32) (a2 : Int32) (x3 : Int32) (s0 : Int32) (G : zMem) (tr : Int64) : zR :=
  some (x3, (up2 G 18 2 s0), tr)
def fX4_net (N : Nat) (a1 : Int32) (a2 : Int32) (G : zMem) (tr : Int64) : zR :=
  zbd (fX4_isIsle N a1 G tr) (fun r_2 G_3 tr_4 => if r_2 = 0 then some ((-1 : Int32), G_3, tr_4) else zbp (fX4_isWithin N a2 (0 : Int32) (1 : Int32)) (fun r_7 => if r_7 = 0 then some ((-1 : Int32), G_3, tr_4) else zbd (fX4_remember N G_3 tr_4) (fun r_10 G_11 tr_12 => zbp (fX4_bitOf N (G_11 18 2) a1) (fun r_14 => if a2 = (1 : Int32) then fX4_net_b71 N a1 a2 r_14 ((G_11 18 2) ||| ((1 : Int32) <<< (a1 &&& 31))) G_11 tr_12 else fX4_net_b71 N a1 a2 r_14 ((G_11 18 2) &&& (((1 : Int32) <<< (a1 &&& 31)) ^^^ (-1 : Int32))) G_11 tr_12))))
def fX4_turn (N : Nat) (a1 : Int32) (a2 : Int32) (G : zMem) (tr : Int64) : zR :=
  zbp (fX4_isWithin N a1 (0 : Int32) ((G 18 3) - (1 : Int32))) (fun r_2 => if r_2 = 0 then some ((-1 : Int32), G, tr) else zbp (fX4_isWithin N a2 (0 : Int32) (4 : Int32)) (fun r_5 => if r_5 = 0 then some ((-1 : Int32), G, tr) else zbd (fX4_remember N G tr) (fun r_8 G_9 tr_10 => zin a1 12 (zin a1 12 (some ((G_9 19 (Int32.toNatClampNeg a1)), (up2 G_9 19 (Int32.toNatClampNeg a1) a2), tr_10))))))
def fX4_undo_b30 (N : Nat) (s0 : Int32) (G : zMem) (tr : Int64) : zR :=
  zin ((up2 G 0 5 s0) 0 5) 10 (zbd (fX2_copyFrom N 18 (26 + 8 * (Int32.toNatClampNeg ((up2 G 0 5 s0) 0 5))) (up2 G 0 5 s0) tr) (fun r_3 G_4 tr_5 => some (((up2 G_4 0 6 ((G_4 0 6) - (1 : Int32))) 0 6), (up2 G_4 0 6 ((G_4 0 6) - (1 : Int32))), tr_5)))
def fX4_undo (N : Nat) (G : zMem) (tr : Int64) : zR :=
  if (1 : Int32) ≤ (G 0 6) then if (G 0 5) ≤ 0 then fX4_undo_b30 N (9 : Int32) G tr else fX4_undo_b30 N ((G 0 5) - (1 : Int32)) G tr else some ((-2 : Int32), G, tr)
def fX4_passHours_b3 (N : Nat) (a1 : Nat) (a2 : Int32) (a3 : Int32) (k3 : Int32 → zMem → Int64 → zR) (x4 : Int32) (G : zMem) (tr : Int64) : zR :=
  if a3 ≤ x4 then some (0, G, tr) else zch (G 0 1) (zbd (fX2_windOf N 18 (a2 + x4) G tr) (fun r_4 G_5 tr_6 => zbd (fX1_passHour N a1 (G 0 1).toNatClampNeg r_4 (G_5 18 2) G_5 tr_6) (fun r_8 G_9 tr_10 => k3 (x4 + 1) G_9 tr_10)))
def fX4_passHours_L3 (N : Nat) (a1 : Nat) (a2 : Int32) (a3 : Int32) : Nat → Int32 → zMem → Int64 → zR
  | 0, _, _, _ => none
  | n + 1, x4, G, tr => fX4_passHours_b3 N a1 a2 a3 (fX4_passHours_L3 N a1 a2 a3 n) x4 G tr
def fX4_passHours (N : Nat) (a1 : Nat) (a2 : Int32) (a3 : Int32) (G : zMem) (tr : Int64) : zR :=
  fX4_passHours_L3 N a1 a2 a3 N (0 : Int32) G tr
def fX4_letterIn (N : Nat) (a1 : Int32) (a2 : Int32) (G : zMem) (tr : Int64) : zR :=
  zin a1 5 (zbd (fX1_copyFrom N 13 (21 + (Int32.toNatClampNeg a1)) G tr) (fun r_3 G_4 tr_5 => zbd (fX4_passHours N 13 (G_4 18 0) a2 G_4 tr_5) (fun r_7 G_8 tr_9 => some (0, G_8, tr_9))))
def fX4_where (N : Nat) (a1 : Int32) (a2 : Int32) (G : zMem) (tr : Int64) : zR :=
  zbd (fX4_isLetter N a1 G tr) (fun r_2 G_3 tr_4 => if r_2 = 0 then some ((-1 : Int32), G_3, tr_4) else zbp (fX4_isWithin N a2 (0 : Int32) (60 : Int32)) (fun r_7 => if r_7 = 0 then some ((-1 : Int32), G_3, tr_4) else zbd (fX4_letterIn N a1 a2 G_3 tr_4) (fun r_10 G_11 tr_12 => some ((G_11 13 3), G_11, tr_12))))
def fX4_arrival_b42 (N : Nat) (a1 : Int32) (a2 : Int32) (k42 : Int32 → Int32 → zMem → Int64 → zR) (x3 : Int32) (x4 : Int32) (G : zMem) (tr : Int64) : zR :=
  if x3 < x4 then some ((-9 : Int32), G, tr) else if (G 13 5) = 0 then zch (G 0 1) (zbd (fX2_windOf N 18 ((a1 + x4) - (1 : Int32)) G tr) (fun r_5 G_6 tr_7 => zbd (fX1_passHour N 13 (G 0 1).toNatClampNeg r_5 a2 G_6 tr_7) (fun r_9 G_10 tr_11 => if (G_10 13 5) = (1 : Int32) then some (x4, G_10, tr_11) else k42 x3 (x4 + 1) G_10 tr_11))) else some ((-9 : Int32), G, tr)
def fX4_arrival_L42 (N : Nat) (a1 : Int32) (a2 : Int32) : Nat → Int32 → Int32 → zMem → Int64 → zR
  | 0, _, _, _, _ => none
  | n + 1, x3, x4, G, tr => fX4_arrival_b42 N a1 a2 (fX4_arrival_L42 N a1 a2 n) x3 x4 G tr
def fX4_arrival (N : Nat) (a1 : Int32) (a2 : Int32) (G : zMem) (tr : Int64) : zR :=
  if (G 13 5) = (1 : Int32) then some ((0 : Int32), G, tr) else zch (G 0 1) (zbd (fX0_cells N (G 0 1).toNatClampNeg G tr) (fun r_4 G_5 tr_6 => fX4_arrival_L42 N a1 a2 N (if (r_4 * (if (1 : Int32) < (G_5 18 3) then (G_5 18 3) else (1 : Int32))) < (400 : Int32) then (r_4 * (if (1 : Int32) < (G_5 18 3) then (G_5 18 3) else (1 : Int32))) else (400 : Int32)) (1 : Int32) G_5 tr_6))
def fX4_comes (N : Nat) (a1 : Int32) (G : zMem) (tr : Int64) : zR :=
  zbd (fX4_isLetter N a1 G tr) (fun r_2 G_3 tr_4 => if r_2 = 0 then some ((-1 : Int32), G_3, tr_4) else zin a1 5 (zbd (fX1_copyFrom N 13 (21 + (Int32.toNatClampNeg a1)) G_3 tr_4) (fun r_8 G_9 tr_10 => zbd (fX4_arrival N (G_9 18 0) (G_9 18 2) G_9 tr_10) (fun r_12 G_13 tr_14 => some (r_12, G_13, tr_14)))))
def fX4_blots (N : Nat) (a1 : Int32) (a2 : Int32) (G : zMem) (tr : Int64) : zR :=
  zbd (fX4_isLetter N a1 G tr) (fun r_2 G_3 tr_4 => if r_2 = 0 then some ((-1 : Int32), G_3, tr_4) else zbp (fX4_isWithin N a2 (0 : Int32) (60 : Int32)) (fun r_7 => if r_7 = 0 then some ((-1 : Int32), G_3, tr_4) else zbd (fX4_letterIn N a1 a2 G_3 tr_4) (fun r_10 G_11 tr_12 => some ((G_11 13 4), G_11, tr_12))))
def fX4_loop_b56 (N : Nat) (a1 : Int32) (k56 : Int32 → Int32 → Int32 → zMem → Int64 → zR) (x2 : Int32) (x3 : Int32) (x4 : Int32) (G : zMem) (tr : Int64) : zR :=
  if (30 : Int32) < x4 then some ((-9 : Int32), G, tr) else zbd (fX4_passHours N 13 (G 18 0) x2 G tr) (fun r_3 G_4 tr_5 => if (G_4 13 3) = x3 then some ((x4 * x2), G_4, tr_5) else k56 x2 x3 (x4 + 1) G_4 tr_5)
def fX4_loop_L56 (N : Nat) (a1 : Int32) : Nat → Int32 → Int32 → Int32 → zMem → Int64 → zR
  | 0, _, _, _, _, _ => none
  | n + 1, x2, x3, x4, G, tr => fX4_loop_b56 N a1 (fX4_loop_L56 N a1 n) x2 x3 x4 G tr
def fX4_loop (N : Nat) (a1 : Int32) (G : zMem) (tr : Int64) : zR :=
  zbd (fX4_isLetter N a1 G tr) (fun r_2 G_3 tr_4 => if r_2 = 0 then some ((-1 : Int32), G_3, tr_4) else zch (G_3 0 1) (zbd (fX0_cells N (G_3 0 1).toNatClampNeg G_3 tr_4) (fun r_8 G_9 tr_10 => zbd (fX4_letterIn N a1 (r_8 * (if (1 : Int32) < (G_3 18 3) then (G_3 18 3) else (1 : Int32))) G_9 tr_10) (fun r_12 G_13 tr_14 => if (G_13 13 5) = 0 then fX4_loop_L56 N a1 N (if (1 : Int32) < (G_3 18 3) then (G_3 18 3) else (1 : Int32)) (G_13 13 3) (1 : Int32) G_13 tr_14 else some ((-9 : Int32), G_13, tr_14)))))
def fX4_tangled_b57 (N : Nat) (a1 : Int32) (a2 : Int32) (k57 : Int32 → zMem → Int64 → zR) (x3 : Int32) (G : zMem) (tr : Int64) : zR :=
  if (400 : Int32) < x3 then some ((-9 : Int32), G, tr) else if (G 13 5) = 0 then if (G 14 5) = 0 then if (G 13 3) = (G 14 3) then some (x3, G, tr) else zbd (fX4_passHours N 13 ((G 18 0) + x3) (1 : Int32) G tr) (fun r_6 G_7 tr_8 => zbd (fX4_passHours N 14 ((G_7 18 0) + x3) (1 : Int32) G_7 tr_8) (fun r_10 G_11 tr_12 => k57 (x3 + 1) G_11 tr_12)) else some ((-9 : Int32), G, tr) else some ((-9 : Int32), G, tr)
def fX4_tangled_L57 (N : Nat) (a1 : Int32) (a2 : Int32) : Nat → Int32 → zMem → Int64 → zR
  | 0, _, _, _ => none
  | n + 1, x3, G, tr => fX4_tangled_b57 N a1 a2 (fX4_tangled_L57 N a1 a2 n) x3 G tr
def fX4_tangled (N : Nat) (a1 : Int32) (a2 : Int32) (G : zMem) (tr : Int64) : zR :=
  zbd (fX4_isLetter N a1 G tr) (fun r_2 G_3 tr_4 => if r_2 = 0 then some ((-1 : Int32), G_3, tr_4) else zbd (fX4_isLetter N a2 G_3 tr_4) (fun r_7 G_8 tr_9 => if r_7 = 0 then some ((-1 : Int32), G_8, tr_9) else if a1 = a2 then some ((-1 : Int32), G_8, tr_9) else zin a1 5 (zbd (fX1_copyFrom N 13 (21 + (Int32.toNatClampNeg a1)) G_8 tr_9) (fun r_14 G_15 tr_16 => zin a2 5 (zbd (fX1_copyFrom N 14 (21 + (Int32.toNatClampNeg a2)) G_15 tr_16) (fun r_19 G_20 tr_21 => fX4_tangled_L57 N a1 a2 N (0 : Int32) G_20 tr_21))))))
def fX4_supposed (N : Nat) (a1 : Int32) (a2 : Int32) (a3 : Int32) (a4 : Int32) (a5 : Int32) (G : zMem) (tr : Int64) : zR :=
  zch (G 0 1) (zbd (fX1_letUp N 13 (G 0 1).toNatClampNeg a1 a2 a3 G tr) (fun r_3 G_4 tr_5 => if (1 : Int32) ≤ (G_4 13 6) then zbd (fX4_arrival N ((G_4 18 0) + a4) a5 G_4 tr_5) (fun r_8 G_9 tr_10 => some (r_8, G_9, tr_10)) else some ((-9 : Int32), G_4, tr_5)))
def fX4_soonest_b99 (N : Nat) (a1 : Int32) (a2 : Int32) (a3 : Int32) (a4 : Int32) (k39 : Int32 → Int32 → Int32 → zMem → Int64 → zR) (x5 : Int32) (x6 : Int32) (x7 : Int32) (G : zMem) (tr : Int64) : zR :=
  k39 x5 x6 (x7 + 1) G tr
def fX4_soonest_b88 (N : Nat) (a1 : Int32) (a2 : Int32) (a3 : Int32) (a4 : Int32) (k39 : Int32 → Int32 → Int32 → zMem → Int64 → zR) (x7 : Int32) (x8 : Int32) (G : zMem) (tr : Int64) : zR :=
  fX4_soonest_b99 N a1 a2 a3 a4 k39 x7 (x7 + x8) x7 G tr
def fX4_soonest_b39 (N : Nat) (a1 : Int32) (a2 : Int32) (a3 : Int32) (a4 : Int32) (k39 : Int32 → Int32 → Int32 → zMem → Int64 → zR) (x5 : Int32) (x6 : Int32) (x7 : Int32) (G : zMem) (tr : Int64) : zR :=
  if (12 : Int32) ≤ x7 then if a4 = 0 then some (x5, G, tr) else some (x6, G, tr) else zbd (fX4_supposed N a1 a2 a3 x7 (G 18 2) G tr) (fun r_4 G_5 tr_6 => if r_4 = (-9 : Int32) then fX4_soonest_b99 N a1 a2 a3 a4 k39 x5 x6 x7 G_5 tr_6 else if x6 = (-9 : Int32) then fX4_soonest_b88 N a1 a2 a3 a4 k39 x7 r_4 G_5 tr_6 else if x6 ≤ (x7 + r_4) then fX4_soonest_b99 N a1 a2 a3 a4 k39 x5 x6 x7 G_5 tr_6 else fX4_soonest_b88 N a1 a2 a3 a4 k39 x7 r_4 G_5 tr_6)
def fX4_soonest_L39 (N : Nat) (a1 : Int32) (a2 : Int32) (a3 : Int32) (a4 : Int32) : Nat → Int32 → Int32 → Int32 → zMem → Int64 → zR
  | 0, _, _, _, _, _ => none
  | n + 1, x5, x6, x7, G, tr => fX4_soonest_b39 N a1 a2 a3 a4 (fX4_soonest_L39 N a1 a2 a3 a4 n) x5 x6 x7 G tr
def fX4_soonest (N : Nat) (a1 : Int32) (a2 : Int32) (a3 : Int32) (a4 : Int32) (G : zMem) (tr : Int64) : zR :=
  zbd (fX4_isWay N a1 a2 G tr) (fun r_2 G_3 tr_4 => if r_2 = 0 then some ((-1 : Int32), G_3, tr_4) else zbp (fX4_isWeight N a3) (fun r_7 => if r_7 = 0 then some ((-1 : Int32), G_3, tr_4) else zbp (fX4_isWithin N a4 (0 : Int32) (1 : Int32)) (fun r_10 => if r_10 = 0 then some ((-1 : Int32), G_3, tr_4) else fX4_soonest_L39 N a1 a2 a3 a4 N (-9 : Int32) (-9 : Int32) (0 : Int32) G_3 tr_4)))
def fX4_lightest_b64 (N : Nat) (a1 : Int32) (a2 : Int32) (a3 : Int32) (k24 : Int32 → zMem → Int64 → zR) (x4 : Int32) (G : zMem) (tr : Int64) : zR :=
  k24 (x4 + 1) G tr
def fX4_lightest_b24 (N : Nat) (a1 : Int32) (a2 : Int32) (a3 : Int32) (k24 : Int32 → zMem → Int64 → zR) (x4 : Int32) (G : zMem) (tr : Int64) : zR :=
  if (5 : Int32) < x4 then some ((-9 : Int32), G, tr) else zbd (fX4_supposed N a1 a2 x4 (0 : Int32) (G 18 2) G tr) (fun r_3 G_4 tr_5 => if r_3 = (-9 : Int32) then fX4_lightest_b64 N a1 a2 a3 k24 x4 G_4 tr_5 else if a3 < r_3 then fX4_lightest_b64 N a1 a2 a3 k24 x4 G_4 tr_5 else some (x4, G_4, tr_5))
def fX4_lightest_L24 (N : Nat) (a1 : Int32) (a2 : Int32) (a3 : Int32) : Nat → Int32 → zMem → Int64 → zR
  | 0, _, _, _ => none
  | n + 1, x4, G, tr => fX4_lightest_b24 N a1 a2 a3 (fX4_lightest_L24 N a1 a2 a3 n) x4 G tr
def fX4_lightest (N : Nat) (a1 : Int32) (a2 : Int32) (a3 : Int32) (G : zMem) (tr : Int64) : zR :=
  zbd (fX4_isWay N a1 a2 G tr) (fun r_2 G_3 tr_4 => if r_2 = 0 then some ((-1 : Int32), G_3, tr_4) else zbp (fX4_isWithin N a3 (1 : Int32) (60 : Int32)) (fun r_7 => if r_7 = 0 then some ((-1 : Int32), G_3, tr_4) else fX4_lightest_L24 N a1 a2 a3 N (1 : Int32) G_3 tr_4))
def fX4_keepsOff_b3 (N : Nat) (a1 : Int32) (a2 : Int32) (a3 : Int32) (a4 : Int32) (k3 : Int32 → zMem → Int64 → zR) (x5 : Int32) (G : zMem) (tr : Int64) : zR :=
  if (12 : Int32) ≤ x5 then zbo (1 : Int32) (some ((1 : Int32), G, tr)) else zbd (fX4_supposed N a1 a2 a3 x5 ((G 18 2) ||| a4) G tr) (fun r_3 G_4 tr_5 => if r_3 = (-9 : Int32) then k3 (x5 + 1) G_4 tr_5 else zbo (0 : Int32) (some ((0 : Int32), G_4, tr_5)))
def fX4_keepsOff_L3 (N : Nat) (a1 : Int32) (a2 : Int32) (a3 : Int32) (a4 : Int32) : Nat → Int32 → zMem → Int64 → zR
  | 0, _, _, _ => none
  | n + 1, x5, G, tr => fX4_keepsOff_b3 N a1 a2 a3 a4 (fX4_keepsOff_L3 N a1 a2 a3 a4 n) x5 G tr
def fX4_keepsOff (N : Nat) (a1 : Int32) (a2 : Int32) (a3 : Int32) (a4 : Int32) (G : zMem) (tr : Int64) : zR :=
  fX4_keepsOff_L3 N a1 a2 a3 a4 N (0 : Int32) G tr
def fX4_hasWordOf_b2 (N : Nat) (a1 : Int32) (a2 : Int32) (k2 : Int32 → zMem → Int64 → zR) (x3 : Int32) (G : zMem) (tr : Int64) : zR :=
  if (5 : Int32) < x3 then zbo (0 : Int32) (some ((0 : Int32), G, tr)) else zbd (fX4_keepsOff N a1 a2 x3 (0 : Int32) G tr) (fun r_3 G_4 tr_5 => if r_3 = 0 then zbo (1 : Int32) (some ((1 : Int32), G_4, tr_5)) else k2 (x3 + 1) G_4 tr_5)
def fX4_hasWordOf_L2 (N : Nat) (a1 : Int32) (a2 : Int32) : Nat → Int32 → zMem → Int64 → zR
  | 0, _, _, _ => none
  | n + 1, x3, G, tr => fX4_hasWordOf_b2 N a1 a2 (fX4_hasWordOf_L2 N a1 a2 n) x3 G tr
def fX4_hasWordOf (N : Nat) (a1 : Int32) (a2 : Int32) (G : zMem) (tr : Int64) : zR :=
  fX4_hasWordOf_L2 N a1 a2 N (1 : Int32) G tr
def fX4_words_b45 (N : Nat) (a1 : Int32) (k14 : Int32 → Int32 → zMem → Int64 → zR) (x2 : Int32) (x3 : Int32) (G : zMem) (tr : Int64) : zR :=
  k14 x2 (x3 + 1) G tr
def fX4_words_b14 (N : Nat) (a1 : Int32) (k14 : Int32 → Int32 → zMem → Int64 → zR) (x2 : Int32) (x3 : Int32) (G : zMem) (tr : Int64) : zR :=
  zch (G 0 1) (if (G (G 0 1).toNatClampNeg 3) ≤ x3 then some (x2, G, tr) else if x3 = a1 then fX4_words_b45 N a1 k14 x2 x3 G tr else zbd (fX4_hasWordOf N x3 a1 G tr) (fun r_5 G_6 tr_7 => if r_5 = 0 then fX4_words_b45 N a1 k14 x2 x3 G_6 tr_7 else fX4_words_b45 N a1 k14 (x2 ||| ((1 : Int32) <<< (x3 &&& 31))) x3 G_6 tr_7))
def fX4_words_L14 (N : Nat) (a1 : Int32) : Nat → Int32 → Int32 → zMem → Int64 → zR
  | 0, _, _, _, _ => none
  | n + 1, x2, x3, G, tr => fX4_words_b14 N a1 (fX4_words_L14 N a1 n) x2 x3 G tr
def fX4_words (N : Nat) (a1 : Int32) (G : zMem) (tr : Int64) : zR :=
  zbd (fX4_isIsle N a1 G tr) (fun r_2 G_3 tr_4 => if r_2 = 0 then some ((-1 : Int32), G_3, tr_4) else fX4_words_L14 N a1 N (0 : Int32) (0 : Int32) G_3 tr_4)
def fJ6_bitCount_0f7a4 (N : Nat) (a0 : Int32) : Option Int32 :=
  some ((((((((a0 - (((Int32.toUInt32 a0 >>> (Int32.toUInt32 (1 : Int32) &&& Int32.toUInt32 31)).toInt32) &&& (1431655765 : Int32))) &&& (858993459 : Int32)) + (((Int32.toUInt32 (a0 - (((Int32.toUInt32 a0 >>> (Int32.toUInt32 (1 : Int32) &&& Int32.toUInt32 31)).toInt32) &&& (1431655765 : Int32))) >>> (Int32.toUInt32 (2 : Int32) &&& Int32.toUInt32 31)).toInt32) &&& (858993459 : Int32))) + ((Int32.toUInt32 (((a0 - (((Int32.toUInt32 a0 >>> (Int32.toUInt32 (1 : Int32) &&& Int32.toUInt32 31)).toInt32) &&& (1431655765 : Int32))) &&& (858993459 : Int32)) + (((Int32.toUInt32 (a0 - (((Int32.toUInt32 a0 >>> (Int32.toUInt32 (1 : Int32) &&& Int32.toUInt32 31)).toInt32) &&& (1431655765 : Int32))) >>> (Int32.toUInt32 (2 : Int32) &&& Int32.toUInt32 31)).toInt32) &&& (858993459 : Int32))) >>> (Int32.toUInt32 (4 : Int32) &&& Int32.toUInt32 31)).toInt32)) &&& (252645135 : Int32)) + ((Int32.toUInt32 (((((a0 - (((Int32.toUInt32 a0 >>> (Int32.toUInt32 (1 : Int32) &&& Int32.toUInt32 31)).toInt32) &&& (1431655765 : Int32))) &&& (858993459 : Int32)) + (((Int32.toUInt32 (a0 - (((Int32.toUInt32 a0 >>> (Int32.toUInt32 (1 : Int32) &&& Int32.toUInt32 31)).toInt32) &&& (1431655765 : Int32))) >>> (Int32.toUInt32 (2 : Int32) &&& Int32.toUInt32 31)).toInt32) &&& (858993459 : Int32))) + ((Int32.toUInt32 (((a0 - (((Int32.toUInt32 a0 >>> (Int32.toUInt32 (1 : Int32) &&& Int32.toUInt32 31)).toInt32) &&& (1431655765 : Int32))) &&& (858993459 : Int32)) + (((Int32.toUInt32 (a0 - (((Int32.toUInt32 a0 >>> (Int32.toUInt32 (1 : Int32) &&& Int32.toUInt32 31)).toInt32) &&& (1431655765 : Int32))) >>> (Int32.toUInt32 (2 : Int32) &&& Int32.toUInt32 31)).toInt32) &&& (858993459 : Int32))) >>> (Int32.toUInt32 (4 : Int32) &&& Int32.toUInt32 31)).toInt32)) &&& (252645135 : Int32)) >>> (Int32.toUInt32 (8 : Int32) &&& Int32.toUInt32 31)).toInt32)) + ((Int32.toUInt32 ((((((a0 - (((Int32.toUInt32 a0 >>> (Int32.toUInt32 (1 : Int32) &&& Int32.toUInt32 31)).toInt32) &&& (1431655765 : Int32))) &&& (858993459 : Int32)) + (((Int32.toUInt32 (a0 - (((Int32.toUInt32 a0 >>> (Int32.toUInt32 (1 : Int32) &&& Int32.toUInt32 31)).toInt32) &&& (1431655765 : Int32))) >>> (Int32.toUInt32 (2 : Int32) &&& Int32.toUInt32 31)).toInt32) &&& (858993459 : Int32))) + ((Int32.toUInt32 (((a0 - (((Int32.toUInt32 a0 >>> (Int32.toUInt32 (1 : Int32) &&& Int32.toUInt32 31)).toInt32) &&& (1431655765 : Int32))) &&& (858993459 : Int32)) + (((Int32.toUInt32 (a0 - (((Int32.toUInt32 a0 >>> (Int32.toUInt32 (1 : Int32) &&& Int32.toUInt32 31)).toInt32) &&& (1431655765 : Int32))) >>> (Int32.toUInt32 (2 : Int32) &&& Int32.toUInt32 31)).toInt32) &&& (858993459 : Int32))) >>> (Int32.toUInt32 (4 : Int32) &&& Int32.toUInt32 31)).toInt32)) &&& (252645135 : Int32)) + ((Int32.toUInt32 (((((a0 - (((Int32.toUInt32 a0 >>> (Int32.toUInt32 (1 : Int32) &&& Int32.toUInt32 31)).toInt32) &&& (1431655765 : Int32))) &&& (858993459 : Int32)) + (((Int32.toUInt32 (a0 - (((Int32.toUInt32 a0 >>> (Int32.toUInt32 (1 : Int32) &&& Int32.toUInt32 31)).toInt32) &&& (1431655765 : Int32))) >>> (Int32.toUInt32 (2 : Int32) &&& Int32.toUInt32 31)).toInt32) &&& (858993459 : Int32))) + ((Int32.toUInt32 (((a0 - (((Int32.toUInt32 a0 >>> (Int32.toUInt32 (1 : Int32) &&& Int32.toUInt32 31)).toInt32) &&& (1431655765 : Int32))) &&& (858993459 : Int32)) + (((Int32.toUInt32 (a0 - (((Int32.toUInt32 a0 >>> (Int32.toUInt32 (1 : Int32) &&& Int32.toUInt32 31)).toInt32) &&& (1431655765 : Int32))) >>> (Int32.toUInt32 (2 : Int32) &&& Int32.toUInt32 31)).toInt32) &&& (858993459 : Int32))) >>> (Int32.toUInt32 (4 : Int32) &&& Int32.toUInt32 31)).toInt32)) &&& (252645135 : Int32)) >>> (Int32.toUInt32 (8 : Int32) &&& Int32.toUInt32 31)).toInt32)) >>> (Int32.toUInt32 (16 : Int32) &&& Int32.toUInt32 31)).toInt32)) &&& (63 : Int32))
def fX4_nets_b94 (N : Nat) (a1 : Int32) (a2 : Int32) (a3 : Int32) (k38 : Int32 → Int32 → Int32 → Int32 → zMem → Int64 → zR) (x4 : Int32) (x5 : Int32) (x6 : Int32) (x7 : Int32) (G : zMem) (tr : Int64) : zR :=
  k38 x4 x5 x6 (x7 + 1) G tr
def fX4_nets_b38 (N : Nat) (a1 : Int32) (a2 : Int32) (a3 : Int32) (k38 : Int32 → Int32 → Int32 → Int32 → zMem → Int64 → zR) (x4 : Int32) (x5 : Int32) (x6 : Int32) (x7 : Int32) (G : zMem) (tr : Int64) : zR :=
  zch (G 0 1) (if ((1 : Int32) <<< ((G (G 0 1).toNatClampNeg 3) &&& 31)) ≤ x7 then some (x4, G, tr) else zbp (fJ6_bitCount_0f7a4 N x7) (fun r_4 => if (x7 &&& x6) = 0 then if x5 ≤ r_4 then fX4_nets_b94 N a1 a2 a3 k38 x4 x5 x6 x7 G tr else zbd (fX4_keepsOff N a1 a2 a3 x7 G tr) (fun r_8 G_9 tr_10 => if r_8 = 0 then fX4_nets_b94 N a1 a2 a3 k38 x4 x5 x6 x7 G_9 tr_10 else fX4_nets_b94 N a1 a2 a3 k38 x7 r_4 x6 x7 G_9 tr_10) else fX4_nets_b94 N a1 a2 a3 k38 x4 x5 x6 x7 G tr))
def fX4_nets_L38 (N : Nat) (a1 : Int32) (a2 : Int32) (a3 : Int32) : Nat → Int32 → Int32 → Int32 → Int32 → zMem → Int64 → zR
  | 0, _, _, _, _, _, _ => none
  | n + 1, x4, x5, x6, x7, G, tr => fX4_nets_b38 N a1 a2 a3 (fX4_nets_L38 N a1 a2 a3 n) x4 x5 x6 x7 G tr
def fX4_nets (N : Nat) (a1 : Int32) (a2 : Int32) (a3 : Int32) (G : zMem) (tr : Int64) : zR :=
  zbd (fX4_isWay N a1 a2 G tr) (fun r_2 G_3 tr_4 => if r_2 = 0 then some ((-1 : Int32), G_3, tr_4) else zbp (fX4_isWeight N a3) (fun r_7 => if r_7 = 0 then some ((-1 : Int32), G_3, tr_4) else fX4_nets_L38 N a1 a2 a3 N (-9 : Int32) (7 : Int32) (((1 : Int32) <<< (a1 &&& 31)) ||| ((1 : Int32) <<< (a2 &&& 31))) (0 : Int32) G_3 tr_4))
def fX4_comesWith_b45 (N : Nat) (a1 : Int32) (a2 : Int32) (a3 : Int32) (a4 : Int32) (k3 : Int32 → zMem → Int64 → zR) (x5 : Int32) (G : zMem) (tr : Int64) : zR :=
  k3 (x5 + 1) G tr
def fX4_comesWith_b3 (N : Nat) (a1 : Int32) (a2 : Int32) (a3 : Int32) (a4 : Int32) (k3 : Int32 → zMem → Int64 → zR) (x5 : Int32) (G : zMem) (tr : Int64) : zR :=
  if (12 : Int32) ≤ x5 then zbo (0 : Int32) (some ((0 : Int32), G, tr)) else zbd (fX4_supposed N a1 a2 a3 x5 (G 18 2) G tr) (fun r_3 G_4 tr_5 => if r_3 = (-9 : Int32) then fX4_comesWith_b45 N a1 a2 a3 a4 k3 x5 G_4 tr_5 else if (G_4 13 4) = a4 then zbo (1 : Int32) (some ((1 : Int32), G_4, tr_5)) else fX4_comesWith_b45 N a1 a2 a3 a4 k3 x5 G_4 tr_5)
def fX4_comesWith_L3 (N : Nat) (a1 : Int32) (a2 : Int32) (a3 : Int32) (a4 : Int32) : Nat → Int32 → zMem → Int64 → zR
  | 0, _, _, _ => none
  | n + 1, x5, G, tr => fX4_comesWith_b3 N a1 a2 a3 a4 (fX4_comesWith_L3 N a1 a2 a3 a4 n) x5 G tr
def fX4_comesWith (N : Nat) (a1 : Int32) (a2 : Int32) (a3 : Int32) (a4 : Int32) (G : zMem) (tr : Int64) : zR :=
  fX4_comesWith_L3 N a1 a2 a3 a4 N (0 : Int32) G tr
def fX4_who_b83 (N : Nat) (a1 : Int32) (a2 : Int32) (a3 : Int32) (k44 : Int32 → Int32 → zMem → Int64 → zR) (x4 : Int32) (x5 : Int32) (G : zMem) (tr : Int64) : zR :=
  k44 x4 (x5 + 1) G tr
def fX4_who_b44 (N : Nat) (a1 : Int32) (a2 : Int32) (a3 : Int32) (k44 : Int32 → Int32 → zMem → Int64 → zR) (x4 : Int32) (x5 : Int32) (G : zMem) (tr : Int64) : zR :=
  zch (G 0 1) (if (G (G 0 1).toNatClampNeg 3) ≤ x5 then some (x4, G, tr) else if x5 = a1 then fX4_who_b83 N a1 a2 a3 k44 x4 x5 G tr else zbd (fX4_comesWith N x5 a1 a2 a3 G tr) (fun r_5 G_6 tr_7 => if r_5 = 0 then fX4_who_b83 N a1 a2 a3 k44 x4 x5 G_6 tr_7 else fX4_who_b83 N a1 a2 a3 k44 (x4 ||| ((1 : Int32) <<< (x5 &&& 31))) x5 G_6 tr_7))
def fX4_who_L44 (N : Nat) (a1 : Int32) (a2 : Int32) (a3 : Int32) : Nat → Int32 → Int32 → zMem → Int64 → zR
  | 0, _, _, _, _ => none
  | n + 1, x4, x5, G, tr => fX4_who_b44 N a1 a2 a3 (fX4_who_L44 N a1 a2 a3 n) x4 x5 G tr
def fX4_who (N : Nat) (a1 : Int32) (a2 : Int32) (a3 : Int32) (G : zMem) (tr : Int64) : zR :=
  zbd (fX4_isIsle N a1 G tr) (fun r_2 G_3 tr_4 => if r_2 = 0 then some ((-1 : Int32), G_3, tr_4) else zbp (fX4_isWeight N a2) (fun r_7 => if r_7 = 0 then some ((-1 : Int32), G_3, tr_4) else zch (G_3 0 1) (zbp (fX4_isWithin N a3 (0 : Int32) (((1 : Int32) <<< ((G_3 (G_3 0 1).toNatClampNeg 3) &&& 31)) - (1 : Int32))) (fun r_11 => if r_11 = 0 then some ((-1 : Int32), G_3, tr_4) else fX4_who_L44 N a1 a2 a3 N (0 : Int32) (0 : Int32) G_3 tr_4))))
def fX4_knee_b71 (N : Nat) (a1 : Int32) (a2 : Int32) (k27 : Int32 → Int32 → zMem → Int64 → zR) (x3 : Int32) (x4 : Int32) (G : zMem) (tr : Int64) : zR :=
  k27 x3 (x4 + 1) G tr
def fX4_knee_b27 (N : Nat) (a1 : Int32) (a2 : Int32) (k27 : Int32 → Int32 → zMem → Int64 → zR) (x3 : Int32) (x4 : Int32) (G : zMem) (tr : Int64) : zR :=
  if a2 ≤ x4 then some (x3, G, tr) else zbd (fX2_windOf N 18 ((G 18 0) + x4) G tr) (fun r_3 G_4 tr_5 => zbd (fX2_windOf N 18 (((G 18 0) + x4) - a1) G_4 tr_5) (fun r_7 G_8 tr_9 => if r_3 = r_7 then fX4_knee_b71 N a1 a2 k27 (x3 + 1) x4 G_8 tr_9 else fX4_knee_b71 N a1 a2 k27 x3 x4 G_8 tr_9))
def fX4_knee_L27 (N : Nat) (a1 : Int32) (a2 : Int32) : Nat → Int32 → Int32 → zMem → Int64 → zR
  | 0, _, _, _, _ => none
  | n + 1, x3, x4, G, tr => fX4_knee_b27 N a1 a2 (fX4_knee_L27 N a1 a2 n) x3 x4 G tr
def fX4_knee (N : Nat) (a1 : Int32) (a2 : Int32) (G : zMem) (tr : Int64) : zR :=
  zbp (fX4_isWithin N a1 (1 : Int32) (12 : Int32)) (fun r_2 => if r_2 = 0 then some ((-1 : Int32), G, tr) else zbp (fX4_isWithin N a2 (1 : Int32) (12 : Int32)) (fun r_5 => if r_5 = 0 then some ((-1 : Int32), G, tr) else fX4_knee_L27 N a1 a2 N (0 : Int32) (0 : Int32) G tr))
def fX4_drift_b93 (N : Nat) (a1 : Int32) (a2 : Int32) (k46 : Int32 → Int32 → Int32 → Int32 → zMem → Int64 → zR) (x3 : Int32) (x4 : Int32) (x5 : Int32) (x6 : Int32) (G : zMem) (tr : Int64) : zR :=
  k46 x3 x4 x5 (x6 + 1) G tr
def fX4_drift_b75 (N : Nat) (a1 : Int32) (a2 : Int32) (k46 : Int32 → Int32 → Int32 → Int32 → zMem → Int64 → zR) (x3 : Int32) (x4 : Int32) (x5 : Int32) (x6 : Int32) (G : zMem) (tr : Int64) : zR :=
  zin x6 12 (if (G 19 (Int32.toNatClampNeg x6)) = x4 then fX4_drift_b93 N a1 a2 k46 x3 x4 (x5 + (-1)) x6 G tr else fX4_drift_b93 N a1 a2 k46 x3 x4 x5 x6 G tr)
def fX4_drift_b46 (N : Nat) (a1 : Int32) (a2 : Int32) (k46 : Int32 → Int32 → Int32 → Int32 → zMem → Int64 → zR) (x3 : Int32) (x4 : Int32) (x5 : Int32) (x6 : Int32) (G : zMem) (tr : Int64) : zR :=
  if (G 18 3) ≤ x6 then zch (G 0 1) (some ((x5 * (if (0 : Int32) < ((G (G 0 1).toNatClampNeg 2) - a1) then ((G (G 0 1).toNatClampNeg 2) - a1) else (0 : Int32))), G, tr)) else zin x6 12 (if (G 19 (Int32.toNatClampNeg x6)) = x3 then fX4_drift_b75 N a1 a2 k46 x3 x4 (x5 + 1) x6 G tr else fX4_drift_b75 N a1 a2 k46 x3 x4 x5 x6 G tr)
def fX4_drift_L46 (N : Nat) (a1 : Int32) (a2 : Int32) : Nat → Int32 → Int32 → Int32 → Int32 → zMem → Int64 → zR
  | 0, _, _, _, _, _, _ => none
  | n + 1, x3, x4, x5, x6, G, tr => fX4_drift_b46 N a1 a2 (fX4_drift_L46 N a1 a2 n) x3 x4 x5 x6 G tr
def fX4_drift_b38 (N : Nat) (a1 : Int32) (a2 : Int32) (x3 : Int32) (s0 : Int32) (G : zMem) (tr : Int64) : zR :=
  fX4_drift_L46 N a1 a2 N x3 s0 (0 : Int32) (0 : Int32) G tr
def fX4_drift_b28 (N : Nat) (a1 : Int32) (a2 : Int32) (s0 : Int32) (G : zMem) (tr : Int64) : zR :=
  if a2 = 0 then fX4_drift_b38 N a1 a2 s0 (3 : Int32) G tr else fX4_drift_b38 N a1 a2 s0 (0 : Int32) G tr
def fX4_drift (N : Nat) (a1 : Int32) (a2 : Int32) (G : zMem) (tr : Int64) : zR :=
  zbp (fX4_isWeight N a1) (fun r_2 => if r_2 = 0 then some ((-1000000 : Int32), G, tr) else zbp (fX4_isWithin N a2 (0 : Int32) (1 : Int32)) (fun r_5 => if r_5 = 0 then some ((-1000000 : Int32), G, tr) else if a2 = 0 then fX4_drift_b28 N a1 a2 (1 : Int32) G tr else fX4_drift_b28 N a1 a2 (2 : Int32) G tr))
def fX4_shareArrived_b98 (N : Nat) (a1 : Int32) (a2 : Int32) (a3 : Int32) (a4 : Int32) (k22 : Int32 → Int32 → zMem → Int64 → zR) (x5 : Int32) (x6 : Int32) (s0 : Int32) (s1 : Nat) (G : zMem) (tr : Int64) : zR :=
  zbd (fX1_passHour N 13 s1 s0 (G 18 2) G tr) (fun r_2 G_3 tr_4 => k22 x5 (x6 + 1) G_3 tr_4)
def fX4_shareArrived_b61 (N : Nat) (a1 : Int32) (a2 : Int32) (a3 : Int32) (a4 : Int32) (k22 : Int32 → Int32 → zMem → Int64 → zR) (x6 : Int32) (x7 : Int32) (s0 : Int32) (s1 : Int32) (G : zMem) (tr : Int64) : zR :=
  zch (G 0 1) (if x7 = 0 then zbd (fX2_windOf N 18 ((G 18 0) + x6) G tr) (fun r_4 G_5 tr_6 => fX4_shareArrived_b98 N a1 a2 a3 a4 k22 (s1 * s0) x6 r_4 (G 0 1).toNatClampNeg G_5 tr_6) else fX4_shareArrived_b98 N a1 a2 a3 a4 k22 (s1 * s0) x6 (4 : Int32) (G 0 1).toNatClampNeg G tr)
def fX4_shareArrived_b44 (N : Nat) (a1 : Int32) (a2 : Int32) (a3 : Int32) (a4 : Int32) (k22 : Int32 → Int32 → zMem → Int64 → zR) (x5 : Int32) (x6 : Int32) (s0 : Int32) (G : zMem) (tr : Int64) : zR :=
  if s0 = 0 then fX4_shareArrived_b61 N a1 a2 a3 a4 k22 x6 s0 ((10 : Int32) - a2) x5 G tr else fX4_shareArrived_b61 N a1 a2 a3 a4 k22 x6 s0 a2 x5 G tr
def fX4_shareArrived_b22 (N : Nat) (a1 : Int32) (a2 : Int32) (a3 : Int32) (a4 : Int32) (k22 : Int32 → Int32 → zMem → Int64 → zR) (x5 : Int32) (x6 : Int32) (G : zMem) (tr : Int64) : zR :=
  if a3 ≤ x6 then if (G 13 5) = (1 : Int32) then some (x5, G, tr) else some ((0 : Int32), G, tr) else zbp (fX4_bitOf N a4 x6) (fun r_4 => if r_4 = (1 : Int32) then fX4_shareArrived_b44 N a1 a2 a3 a4 k22 x5 x6 (1 : Int32) G tr else fX4_shareArrived_b44 N a1 a2 a3 a4 k22 x5 x6 (0 : Int32) G tr)
def fX4_shareArrived_L22 (N : Nat) (a1 : Int32) (a2 : Int32) (a3 : Int32) (a4 : Int32) : Nat → Int32 → Int32 → zMem → Int64 → zR
  | 0, _, _, _, _ => none
  | n + 1, x5, x6, G, tr => fX4_shareArrived_b22 N a1 a2 a3 a4 (fX4_shareArrived_L22 N a1 a2 a3 a4 n) x5 x6 G tr
def fX4_shareArrived (N : Nat) (a1 : Int32) (a2 : Int32) (a3 : Int32) (a4 : Int32) (G : zMem) (tr : Int64) : zR :=
  zin a1 5 (zbd (fX1_copyFrom N 13 (21 + (Int32.toNatClampNeg a1)) G tr) (fun r_3 G_4 tr_5 => fX4_shareArrived_L22 N a1 a2 a3 a4 N (1 : Int32) (0 : Int32) G_4 tr_5))
def fX4_commonDivisor_b7 (N : Nat) (a0 : Int32) (a1 : Int32) (k7 : Int32 → Int32 → Int32 → Option Int32) (x2 : Int32) (x3 : Int32) (x4 : Int32) : Option Int32 :=
  if (100 : Int32) ≤ x4 then some x2 else if x3 ≤ 0 then some x2 else zdv x3 (k7 x3 (x2 - x2 / x3 * x3) (x4 + 1))
def fX4_commonDivisor_L7 (N : Nat) (a0 : Int32) (a1 : Int32) : Nat → Int32 → Int32 → Int32 → Option Int32
  | 0, _, _, _ => none
  | n + 1, x2, x3, x4 => fX4_commonDivisor_b7 N a0 a1 (fX4_commonDivisor_L7 N a0 a1 n) x2 x3 x4
def fX4_commonDivisor (N : Nat) (a0 : Int32) (a1 : Int32) : Option Int32 :=
  fX4_commonDivisor_L7 N a0 a1 N a0 a1 (0 : Int32)
def fX4_odds_b82 (N : Nat) (a1 : Int32) (a2 : Int32) (a3 : Int32) (a4 : Int32) (k82 : Int32 → Int32 → Int32 → zMem → Int64 → zR) (x5 : Int32) (x6 : Int32) (x7 : Int32) (G : zMem) (tr : Int64) : zR :=
  if a3 ≤ x7 then zbp (fX4_commonDivisor N x5 x6) (fun r_3 => if (1 : Int32) ≤ r_3 then if a4 = 0 then zdv r_3 (some ((x5 / r_3), G, tr)) else zdv r_3 (some ((x6 / r_3), G, tr)) else some ((-1 : Int32), G, tr)) else k82 x5 (x6 * (10 : Int32)) (x7 + 1) G tr
def fX4_odds_L82 (N : Nat) (a1 : Int32) (a2 : Int32) (a3 : Int32) (a4 : Int32) : Nat → Int32 → Int32 → Int32 → zMem → Int64 → zR
  | 0, _, _, _, _, _ => none
  | n + 1, x5, x6, x7, G, tr => fX4_odds_b82 N a1 a2 a3 a4 (fX4_odds_L82 N a1 a2 a3 a4 n) x5 x6 x7 G tr
def fX4_odds_b48 (N : Nat) (a1 : Int32) (a2 : Int32) (a3 : Int32) (a4 : Int32) (k48 : Int32 → Int32 → zMem → Int64 → zR) (x5 : Int32) (x6 : Int32) (G : zMem) (tr : Int64) : zR :=
  if ((1 : Int32) <<< (a3 &&& 31)) ≤ x6 then fX4_odds_L82 N a1 a2 a3 a4 N x5 (1 : Int32) (0 : Int32) G tr else zbd (fX4_shareArrived N a1 a2 a3 x6 G tr) (fun r_3 G_4 tr_5 => k48 (x5 + r_3) (x6 + 1) G_4 tr_5)
def fX4_odds_L48 (N : Nat) (a1 : Int32) (a2 : Int32) (a3 : Int32) (a4 : Int32) : Nat → Int32 → Int32 → zMem → Int64 → zR
  | 0, _, _, _, _ => none
  | n + 1, x5, x6, G, tr => fX4_odds_b48 N a1 a2 a3 a4 (fX4_odds_L48 N a1 a2 a3 a4 n) x5 x6 G tr
def fX4_odds (N : Nat) (a1 : Int32) (a2 : Int32) (a3 : Int32) (a4 : Int32) (G : zMem) (tr : Int64) : zR :=
  zbd (fX4_isLetter N a1 G tr) (fun r_2 G_3 tr_4 => if r_2 = 0 then some ((-1 : Int32), G_3, tr_4) else zbp (fX4_isWithin N a2 (0 : Int32) (10 : Int32)) (fun r_7 => if r_7 = 0 then some ((-1 : Int32), G_3, tr_4) else zbp (fX4_isWithin N a3 (0 : Int32) (6 : Int32)) (fun r_10 => if r_10 = 0 then some ((-1 : Int32), G_3, tr_4) else zbp (fX4_isWithin N a4 (0 : Int32) (1 : Int32)) (fun r_13 => if r_13 = 0 then some ((-1 : Int32), G_3, tr_4) else fX4_odds_L48 N a1 a2 a3 a4 N (0 : Int32) (0 : Int32) G_3 tr_4))))
def fX4_rateLetter (N : Nat) (a1 : Int32) (G : zMem) (tr : Int64) : zR :=
  zin a1 5 (some ((G (21 + (Int32.toNatClampNeg a1)) 0), G, (tr + (1 : Int64))))
def fX4_rateSummons (N : Nat) (a1 : Int32) (G : zMem) (tr : Int64) : zR :=
  zbd (fX4_rateLetter N a1 G (tr + (10 : Int64))) (fun r_2 G_3 tr_4 => zin a1 5 (zbp (fJ6_bitCount_0f7a4 N (G_3 (21 + (Int32.toNatClampNeg a1)) 4)) (fun r_7 => some ((r_2 + r_7), G_3, tr_4))))
def fX4_rateGoose (N : Nat) (a1 : Int32) (G : zMem) (tr : Int64) : zR :=
  zbd (fX4_rateLetter N a1 G (tr + (100 : Int64))) (fun r_2 G_3 tr_4 => zin a1 5 (some ((r_2 - (G_3 (21 + (Int32.toNatClampNeg a1)) 3)), G_3, tr_4)))
def fX4_rateBill (N : Nat) (a1 : Int32) (G : zMem) (tr : Int64) : zR :=
  zbd (fX4_rateSummons N a1 G (tr + (1000 : Int64))) (fun r_2 G_3 tr_4 => some (((2 : Int32) * r_2), G_3, tr_4))
def fX4_rateVow (N : Nat) (a1 : Int32) (G : zMem) (tr : Int64) : zR :=
  zbd (fX4_rateGoose N a1 G (tr + (10000 : Int64))) (fun r_2 G_3 tr_4 => some ((r_2 + a1), G_3, tr_4))
def fX4_rateKite (N : Nat) (a1 : Int32) (G : zMem) (tr : Int64) : zR :=
  zbd (fX4_rateLetter N a1 G (tr + (100000 : Int64))) (fun r_2 G_3 tr_4 => some ((r_2 + (G_3 18 0)), G_3, tr_4))
def fX4_rate (N : Nat) (a1 : Int32) (a2 : Int32) (G : zMem) (tr : Int64) : zR :=
  zbd (fX4_isLetter N a2 G tr) (fun r_2 G_3 tr_4 => if r_2 = 0 then some ((-1000000 : Int32), G_3, tr_4) else if a1 = 0 then zbd (fX4_rateLetter N a2 G_3 tr_4) (fun r_8 G_9 tr_10 => some (r_8, G_9, tr_10)) else if a1 = 1 then zbd (fX4_rateSummons N a2 G_3 tr_4) (fun r_13 G_14 tr_15 => some (r_13, G_14, tr_15)) else if a1 = 2 then zbd (fX4_rateGoose N a2 G_3 tr_4) (fun r_18 G_19 tr_20 => some (r_18, G_19, tr_20)) else if a1 = 3 then zbd (fX4_rateBill N a2 G_3 tr_4) (fun r_23 G_24 tr_25 => some (r_23, G_24, tr_25)) else if a1 = 4 then zbd (fX4_rateVow N a2 G_3 tr_4) (fun r_28 G_29 tr_30 => some (r_28, G_29, tr_30)) else if a1 = 5 then zbd (fX4_rateKite N a2 G_3 tr_4) (fun r_33 G_34 tr_35 => some (r_33, G_34, tr_35)) else some ((-1000000 : Int32), G_3, tr_4))
def fX4_keep (N : Nat) (a1 : Int32) (G : zMem) (tr : Int64) : zR :=
  zbp (fX4_isWithin N a1 (0 : Int32) (1 : Int32)) (fun r_2 => if r_2 = 0 then some ((-1 : Int32), G, tr) else zin a1 2 (zbd (fX2_copyFrom N (106 + 8 * (Int32.toNatClampNeg a1)) 18 G tr) (fun r_6 G_7 tr_8 => zin a1 2 (zbo (1 : Int32) (some (((up2 G_7 17 (Int32.toNatClampNeg a1) (1 : Int32)) 18 0), (up2 G_7 17 (Int32.toNatClampNeg a1) (1 : Int32)), tr_8))))))
def fX4_back (N : Nat) (a1 : Int32) (G : zMem) (tr : Int64) : zR :=
  zbp (fX4_isWithin N a1 (0 : Int32) (1 : Int32)) (fun r_2 => if r_2 = 0 then some ((-1 : Int32), G, tr) else zin a1 2 (if (G 17 (Int32.toNatClampNeg a1)) = 0 then some ((-2 : Int32), G, tr) else zin a1 2 (zbd (fX2_copyFrom N 18 (106 + 8 * (Int32.toNatClampNeg a1)) G tr) (fun r_8 G_9 tr_10 => some (((up2 G_9 0 6 (0 : Int32)) 18 0), (up2 G_9 0 6 (0 : Int32)), tr_10)))))
def fX4_count (N : Nat) (a1 : Int32) (G : zMem) (tr : Int64) : zR :=
  if a1 = 0 then zch (G 0 1) (some ((G (G 0 1).toNatClampNeg 0), G, tr)) else if a1 = 1 then zch (G 0 1) (some ((G (G 0 1).toNatClampNeg 1), G, tr)) else if a1 = 2 then zch (G 0 1) (some ((G (G 0 1).toNatClampNeg 3), G, tr)) else if a1 = 3 then zch (G 0 1) (some ((G (G 0 1).toNatClampNeg 4), G, tr)) else if a1 = 4 then some ((G 18 3), G, tr) else if a1 = 5 then zch (G 0 1) (some ((G (G 0 1).toNatClampNeg 2), G, tr)) else if a1 = 6 then some ((G 1 0), G, tr) else some ((-1 : Int32), G, tr)
def fX4_trace (N : Nat) (G : zMem) (tr : Int64) : Option (Int64 × zMem × Int64) :=
  some (tr, G, tr)
def fX5_in (N : Nat) (a0 : Int32) (a1 : Int32) (a2 : Int32) : Option Int32 :=
  if a0 < a1 then zbo (0 : Int32) (some (0 : Int32)) else if a2 < a0 then zbo (0 : Int32) (some (0 : Int32)) else zbo (1 : Int32) (some (1 : Int32))
def fX5_ones_b4 (N : Nat) (a0 : Int32) (k4 : Int32 → Int32 → Option Int32) (x1 : Int32) (x2 : Int32) : Option Int32 :=
  if (6 : Int32) ≤ x2 then some x1 else k4 (x1 + ((a0 >>> (x2 &&& 31)) &&& (1 : Int32))) (x2 + 1)
def fX5_ones_L4 (N : Nat) (a0 : Int32) : Nat → Int32 → Int32 → Option Int32
  | 0, _, _ => none
  | n + 1, x1, x2 => fX5_ones_b4 N a0 (fX5_ones_L4 N a0 n) x1 x2
def fX5_ones (N : Nat) (a0 : Int32) : Option Int32 :=
  fX5_ones_L4 N a0 N (0 : Int32) (0 : Int32)
def fX5_type (N : Nat) (a1 : Int32) (G : zMem) (tr : Int64) : zR :=
  zbp (fX5_in N a1 (0 : Int32) (255 : Int32)) (fun r_2 => if r_2 = 0 then some ((-1 : Int32), (up2 G 0 0 (0 : Int32)), tr) else if ((up2 G 0 0 (0 : Int32)) 0 3) = (200 : Int32) then some ((-3 : Int32), (up2 G 0 0 (0 : Int32)), tr) else zin ((up2 G 0 0 (0 : Int32)) 0 3) 200 (some (((up2 (up2 (up2 G 0 0 (0 : Int32)) 1 (Int32.toNatClampNeg ((up2 G 0 0 (0 : Int32)) 0 3)) a1) 0 3 (((up2 (up2 G 0 0 (0 : Int32)) 1 (Int32.toNatClampNeg ((up2 G 0 0 (0 : Int32)) 0 3)) a1) 0 3) + (1 : Int32))) 0 3), (up2 (up2 (up2 G 0 0 (0 : Int32)) 1 (Int32.toNatClampNeg ((up2 G 0 0 (0 : Int32)) 0 3)) a1) 0 3 (((up2 (up2 G 0 0 (0 : Int32)) 1 (Int32.toNatClampNeg ((up2 G 0 0 (0 : Int32)) 0 3)) a1) 0 3) + (1 : Int32))), tr)))
def fX5_clear (N : Nat) (G : zMem) (tr : Int64) : zR :=
  some (((up2 G 0 0 (0 : Int32)) 0 3), (up2 (up2 G 0 0 (0 : Int32)) 0 3 (0 : Int32)), tr)
def fX5_letterAt (N : Nat) (a1 : Int32) (G : zMem) (tr : Int64) : zR :=
  if (G 0 3) ≤ a1 then some ((-1 : Int32), G, tr) else zin a1 200 (some ((G 1 (Int32.toNatClampNeg a1)), G, tr))
def fX5_advances_b125 (N : Nat) (k71 : Int32 → zMem → Int64 → zR) (x1 : Int32) (s0 : Int32) (G : zMem) (tr : Int64) : zR :=
  k71 x1 (up2 (up2 G 0 7 s0) 0 4 (((up2 G 0 7 s0) 0 4) + (1 : Int32))) tr
def fX5_advances_b175 (N : Nat) (s0 : Int32) (G : zMem) (tr : Int64) : zR :=
  some (0, (up2 G 0 5 s0), tr)
def fX5_advances_b170 (N : Nat) (G : zMem) (tr : Int64) : zR :=
  fX5_advances_b175 N (4 : Int32) G tr
def fX5_advances_b174 (N : Nat) (G : zMem) (tr : Int64) : zR :=
  fX5_advances_b175 N (2 : Int32) G tr
def fX5_advances_b71 (N : Nat) (k71 : Int32 → zMem → Int64 → zR) (x1 : Int32) (G : zMem) (tr : Int64) : zR :=
  zbd (fX5_letterAt N (G 0 4) G tr) (fun r_2 G_3 tr_4 => zbp (fX5_in N r_2 (48 : Int32) (57 : Int32)) (fun r_6 => if r_6 = 0 then if (29 : Int32) < (G_3 0 7) then fX5_advances_b170 N G_3 tr_4 else if x1 = (48 : Int32) then if ((G_3 0 4) - (G_3 0 6)) ≤ (1 : Int32) then fX5_advances_b174 N G_3 tr_4 else fX5_advances_b170 N G_3 tr_4 else fX5_advances_b174 N G_3 tr_4 else if (G_3 0 7) ≤ (29 : Int32) then zbd (fX5_letterAt N (G_3 0 4) G_3 tr_4) (fun r_13 G_14 tr_15 => fX5_advances_b125 N k71 x1 ((((10 : Int32) * (G_3 0 7)) + r_13) - (48 : Int32)) G_14 tr_15) else fX5_advances_b125 N k71 x1 (G_3 0 7) G_3 tr_4))
def fX5_advances_L71 (N : Nat) : Nat → Int32 → zMem → Int64 → zR
  | 0, _, _, _ => none
  | n + 1, x1, G, tr => fX5_advances_b71 N (fX5_advances_L71 N n) x1 G tr
def fX5_advances_b242 (N : Nat) (s0 : Int32) (G : zMem) (tr : Int64) : zR :=
  some (0, (up2 G 0 5 s0), tr)
def fX5_advances_b237 (N : Nat) (G : zMem) (tr : Int64) : zR :=
  fX5_advances_b242 N (1 : Int32) G tr
def fX5_advances_b0 (N : Nat) (k0 : zMem → Int64 → zR) (G : zMem) (tr : Int64) : zR :=
  zbd (fX5_letterAt N (G 0 4) G tr) (fun r_2 G_3 tr_4 => if r_2 = (32 : Int32) then k0 (up2 G_3 0 4 ((G_3 0 4) + (1 : Int32))) tr_4 else zbd (fX5_letterAt N ((up2 G_3 0 6 (G_3 0 4)) 0 4) (up2 G_3 0 6 (G_3 0 4)) tr_4) (fun r_7 G_8 tr_9 => if 0 ≤ r_7 then zbp (fX5_in N r_7 (48 : Int32) (57 : Int32)) (fun r_12 => if r_12 = 0 then if r_7 = (59 : Int32) then fX5_advances_b242 N (3 : Int32) (up2 (up2 G_8 0 4 ((G_8 0 4) + (1 : Int32))) 0 7 r_7) tr_9 else if r_7 = (103 : Int32) then fX5_advances_b237 N (up2 (up2 G_8 0 4 ((G_8 0 4) + (1 : Int32))) 0 7 r_7) tr_9 else if r_7 = (105 : Int32) then fX5_advances_b237 N (up2 (up2 G_8 0 4 ((G_8 0 4) + (1 : Int32))) 0 7 r_7) tr_9 else if r_7 = (120 : Int32) then fX5_advances_b237 N (up2 (up2 G_8 0 4 ((G_8 0 4) + (1 : Int32))) 0 7 r_7) tr_9 else if r_7 = (98 : Int32) then fX5_advances_b237 N (up2 (up2 G_8 0 4 ((G_8 0 4) + (1 : Int32))) 0 7 r_7) tr_9 else if r_7 = (102 : Int32) then fX5_advances_b237 N (up2 (up2 G_8 0 4 ((G_8 0 4) + (1 : Int32))) 0 7 r_7) tr_9 else fX5_advances_b242 N (4 : Int32) (up2 (up2 G_8 0 4 ((G_8 0 4) + (1 : Int32))) 0 7 r_7) tr_9 else fX5_advances_L71 N N r_7 (up2 G_8 0 7 (0 : Int32)) tr_9) else some (0, (up2 G_8 0 5 (0 : Int32)), tr_9)))
def fX5_advances_L0 (N : Nat) : Nat → zMem → Int64 → zR
  | 0, _, _ => none
  | n + 1, G, tr => fX5_advances_b0 N (fX5_advances_L0 N n) G tr
def fX5_advances (N : Nat) (G : zMem) (tr : Int64) : zR :=
  fX5_advances_L0 N N G tr
def fX5_isWell (N : Nat) (G : zMem) (tr : Int64) : zR :=
  if 0 ≤ (G 0 8) then zbo (0 : Int32) (some ((0 : Int32), G, tr)) else zbo (1 : Int32) (some ((1 : Int32), G, tr))
def fX5_takes (N : Nat) (a1 : Int32) (G : zMem) (tr : Int64) : zR :=
  zbd (fX5_isWell N G tr) (fun r_2 G_3 tr_4 => if r_2 = 0 then some ((0 : Int32), G_3, tr_4) else if a1 = 0 then some ((0 : Int32), (up2 G_3 0 8 (G_3 0 6)), tr_4) else zbd (fX5_advances N G_3 tr_4) (fun r_8 G_9 tr_10 => some ((G_3 0 7), G_9, tr_10)))
def fX5_number_b26 (N : Nat) (a1 : Int32) (a2 : Int32) (s0 : Int32) (G : zMem) (tr : Int64) : zR :=
  zbd (fX5_takes N s0 G tr) (fun r_2 G_3 tr_4 => some (r_2, G_3, tr_4))
def fX5_number_b25 (N : Nat) (a1 : Int32) (a2 : Int32) (G : zMem) (tr : Int64) : zR :=
  fX5_number_b26 N a1 a2 (0 : Int32) G tr
def fX5_number (N : Nat) (a1 : Int32) (a2 : Int32) (G : zMem) (tr : Int64) : zR :=
  if (G 0 5) = (2 : Int32) then zbp (fX5_in N (G 0 7) a1 a2) (fun r_3 => if r_3 = 0 then fX5_number_b25 N a1 a2 G tr else fX5_number_b26 N a1 a2 (1 : Int32) G tr) else fX5_number_b25 N a1 a2 G tr
def fX5_isFree_b58 (N : Nat) (a1 : Int32) (k25 : Int32 → Int32 → zMem → Int64 → zR) (x3 : Int32) (s0 : Int32) (G : zMem) (tr : Int64) : zR :=
  k25 s0 (x3 + 1) G tr
def fX5_isFree_b57 (N : Nat) (a1 : Int32) (k25 : Int32 → Int32 → zMem → Int64 → zR) (x3 : Int32) (G : zMem) (tr : Int64) : zR :=
  fX5_isFree_b58 N a1 k25 x3 (0 : Int32) G tr
def fX5_isFree_b100 (N : Nat) (a1 : Int32) (k67 : Int32 → Int32 → zMem → Int64 → zR) (x3 : Int32) (s0 : Int32) (G : zMem) (tr : Int64) : zR :=
  k67 s0 (x3 + 1) G tr
def fX5_isFree_b99 (N : Nat) (a1 : Int32) (k67 : Int32 → Int32 → zMem → Int64 → zR) (x3 : Int32) (G : zMem) (tr : Int64) : zR :=
  fX5_isFree_b100 N a1 k67 x3 (0 : Int32) G tr
def fX5_isFree_b67 (N : Nat) (a1 : Int32) (k67 : Int32 → Int32 → zMem → Int64 → zR) (x2 : Int32) (x3 : Int32) (G : zMem) (tr : Int64) : zR :=
  zin (9 : Int32) 12 (if (G 2 (Int32.toNatClampNeg (9 : Int32))) ≤ x3 then zbo x2 (some (x2, G, tr)) else if x2 = 0 then fX5_isFree_b99 N a1 k67 x3 G tr else zin ((6 : Int32) + x3) 12 (if (G 4 (Int32.toNatClampNeg ((6 : Int32) + x3))) = a1 then fX5_isFree_b99 N a1 k67 x3 G tr else fX5_isFree_b100 N a1 k67 x3 (1 : Int32) G tr))
def fX5_isFree_L67 (N : Nat) (a1 : Int32) : Nat → Int32 → Int32 → zMem → Int64 → zR
  | 0, _, _, _, _ => none
  | n + 1, x2, x3, G, tr => fX5_isFree_b67 N a1 (fX5_isFree_L67 N a1 n) x2 x3 G tr
def fX5_isFree_b25 (N : Nat) (a1 : Int32) (k25 : Int32 → Int32 → zMem → Int64 → zR) (x2 : Int32) (x3 : Int32) (G : zMem) (tr : Int64) : zR :=
  zin (8 : Int32) 12 (if (G 2 (Int32.toNatClampNeg (8 : Int32))) ≤ x3 then fX5_isFree_L67 N a1 N x2 (0 : Int32) G tr else if x2 = 0 then fX5_isFree_b57 N a1 k25 x3 G tr else zin ((6 : Int32) + x3) 12 (if (G 3 (Int32.toNatClampNeg ((6 : Int32) + x3))) = a1 then fX5_isFree_b57 N a1 k25 x3 G tr else fX5_isFree_b58 N a1 k25 x3 (1 : Int32) G tr))
def fX5_isFree_L25 (N : Nat) (a1 : Int32) : Nat → Int32 → Int32 → zMem → Int64 → zR
  | 0, _, _, _, _ => none
  | n + 1, x2, x3, G, tr => fX5_isFree_b25 N a1 (fX5_isFree_L25 N a1 n) x2 x3 G tr
def fX5_isFree (N : Nat) (a1 : Int32) (G : zMem) (tr : Int64) : zR :=
  zin (6 : Int32) 12 (zin (7 : Int32) 12 (zbp (fX5_in N a1 (0 : Int32) (((G 2 (Int32.toNatClampNeg (6 : Int32))) * (G 2 (Int32.toNatClampNeg (7 : Int32)))) - (1 : Int32))) (fun r_4 => fX5_isFree_L25 N a1 N r_4 (0 : Int32) G tr)))
def fX5_mayBegin (N : Nat) (a1 : Int32) (G : zMem) (tr : Int64) : zR :=
  if (G 0 7) = (103 : Int32) then if a1 = 0 then zbo (1 : Int32) (some ((1 : Int32), G, tr)) else zbo (0 : Int32) (some ((0 : Int32), G, tr)) else if (G 0 7) = (105 : Int32) then zin (8 : Int32) 12 (if (6 : Int32) ≤ (G 2 (Int32.toNatClampNeg (8 : Int32))) then zbo (0 : Int32) (some ((0 : Int32), G, tr)) else zbo (1 : Int32) (some ((1 : Int32), G, tr))) else if (G 0 7) = (120 : Int32) then zin (9 : Int32) 12 (if (6 : Int32) ≤ (G 2 (Int32.toNatClampNeg (9 : Int32))) then zbo (0 : Int32) (some ((0 : Int32), G, tr)) else zbo (1 : Int32) (some ((1 : Int32), G, tr))) else if (G 0 7) = (98 : Int32) then zbo (1 : Int32) (some ((1 : Int32), G, tr)) else if (G 0 13) = 0 then zbo (1 : Int32) (some ((1 : Int32), G, tr)) else zbo (0 : Int32) (some ((0 : Int32), G, tr))
def fX5_readsWind_b38 (N : Nat) (s0 : Int32) (G : zMem) (tr : Int64) : zR :=
  zbd (fX5_takes N s0 G tr) (fun r_2 G_3 tr_4 => zbd (fX5_isWell N G_3 tr_4) (fun r_6 G_7 tr_8 => if r_6 = 0 then some (0, G_7, tr_8) else zin (10 : Int32) 12 (zin (G_7 2 (Int32.toNatClampNeg (10 : Int32))) 12 (zin (10 : Int32) 12 (zin (10 : Int32) 12 (some (0, (up2 (up2 G_7 5 (Int32.toNatClampNeg (G_7 2 (Int32.toNatClampNeg (10 : Int32)))) r_2) 2 (Int32.toNatClampNeg (10 : Int32)) (((up2 G_7 5 (Int32.toNatClampNeg (G_7 2 (Int32.toNatClampNeg (10 : Int32)))) r_2) 2 (Int32.toNatClampNeg (10 : Int32))) + (1 : Int32))), tr_8)))))))
def fX5_readsWind_b37 (N : Nat) (G : zMem) (tr : Int64) : zR :=
  fX5_readsWind_b38 N (0 : Int32) G tr
def fX5_readsWind (N : Nat) (G : zMem) (tr : Int64) : zR :=
  if (G 0 5) = (2 : Int32) then zbp (fX5_in N (G 0 7) (0 : Int32) (4 : Int32)) (fun r_3 => if r_3 = 0 then fX5_readsWind_b37 N G tr else zin (10 : Int32) 12 (if (12 : Int32) ≤ (G 2 (Int32.toNatClampNeg (10 : Int32))) then fX5_readsWind_b37 N G tr else fX5_readsWind_b38 N (1 : Int32) G tr)) else fX5_readsWind_b37 N G tr
def fX5_readsItem_b81 (N : Nat) (a1 : Int32) (s0 : Int32) (s2 : Int32) (G : zMem) (tr : Int64) : zR :=
  zbd (fX5_takes N s0 G tr) (fun r_2 G_3 tr_4 => zin s2 12 (zin (8 : Int32) 12 (zin (8 : Int32) 12 (some (0, (up2 (up2 G_3 3 (Int32.toNatClampNeg s2) r_2) 2 (Int32.toNatClampNeg (8 : Int32)) (((up2 G_3 3 (Int32.toNatClampNeg s2) r_2) 2 (Int32.toNatClampNeg (8 : Int32))) + (1 : Int32))), tr_4)))))
def fX5_readsItem_b80 (N : Nat) (a1 : Int32) (s1 : Int32) (G : zMem) (tr : Int64) : zR :=
  fX5_readsItem_b81 N a1 (0 : Int32) s1 G tr
def fX5_readsItem_b144 (N : Nat) (a1 : Int32) (s0 : Int32) (s2 : Int32) (G : zMem) (tr : Int64) : zR :=
  zbd (fX5_takes N s0 G tr) (fun r_2 G_3 tr_4 => zin s2 12 (zin (9 : Int32) 12 (zin (9 : Int32) 12 (some (0, (up2 (up2 G_3 4 (Int32.toNatClampNeg s2) r_2) 2 (Int32.toNatClampNeg (9 : Int32)) (((up2 G_3 4 (Int32.toNatClampNeg s2) r_2) 2 (Int32.toNatClampNeg (9 : Int32))) + (1 : Int32))), tr_4)))))
def fX5_readsItem_b143 (N : Nat) (a1 : Int32) (s1 : Int32) (G : zMem) (tr : Int64) : zR :=
  fX5_readsItem_b144 N a1 (0 : Int32) s1 G tr
def fX5_readsItem_b172 (N : Nat) (a1 : Int32) (k172 : zMem → Int64 → zR) (G : zMem) (tr : Int64) : zR :=
  zbd (fX5_isWell N G tr) (fun r_2 G_3 tr_4 => if r_2 = 0 then some (0, G_3, tr_4) else if (G_3 0 5) = (2 : Int32) then zbd (fX5_readsWind N G_3 tr_4) (fun r_8 G_9 tr_10 => k172 G_9 tr_10) else some (0, G_3, tr_4))
def fX5_readsItem_L172 (N : Nat) (a1 : Int32) : Nat → zMem → Int64 → zR
  | 0, _, _ => none
  | n + 1, G, tr => fX5_readsItem_b172 N a1 (fX5_readsItem_L172 N a1 n) G tr
def fX5_readsItem (N : Nat) (a1 : Int32) (G : zMem) (tr : Int64) : zR :=
  if a1 = (103 : Int32) then zbd (fX5_number N (2 : Int32) (6 : Int32) G tr) (fun r_30 G_31 tr_32 => zin (6 : Int32) 12 (zbd (fX5_number N (2 : Int32) (5 : Int32) (up2 G_31 2 (Int32.toNatClampNeg (6 : Int32)) r_30) tr_32) (fun r_35 G_36 tr_37 => zin (7 : Int32) 12 (some (0, (up2 G_36 2 (Int32.toNatClampNeg (7 : Int32)) r_35), tr_37))))) else if a1 = (105 : Int32) then zin (8 : Int32) 12 (if (G 0 5) = (2 : Int32) then zbd (fX5_isFree N (G 0 7) G tr) (fun r_25 G_26 tr_27 => if r_25 = 0 then fX5_readsItem_b80 N a1 ((6 : Int32) + (G 2 (Int32.toNatClampNeg (8 : Int32)))) G_26 tr_27 else fX5_readsItem_b81 N a1 (1 : Int32) ((6 : Int32) + (G 2 (Int32.toNatClampNeg (8 : Int32)))) G_26 tr_27) else fX5_readsItem_b80 N a1 ((6 : Int32) + (G 2 (Int32.toNatClampNeg (8 : Int32)))) G tr) else if a1 = (120 : Int32) then zin (9 : Int32) 12 (if (G 0 5) = (2 : Int32) then zbd (fX5_isFree N (G 0 7) G tr) (fun r_18 G_19 tr_20 => if r_18 = 0 then fX5_readsItem_b143 N a1 ((6 : Int32) + (G 2 (Int32.toNatClampNeg (9 : Int32)))) G_19 tr_20 else fX5_readsItem_b144 N a1 (1 : Int32) ((6 : Int32) + (G 2 (Int32.toNatClampNeg (9 : Int32)))) G_19 tr_20) else fX5_readsItem_b143 N a1 ((6 : Int32) + (G 2 (Int32.toNatClampNeg (9 : Int32)))) G tr) else if a1 = (98 : Int32) then zbd (fX5_readsWind N G tr) (fun r_12 G_13 tr_14 => fX5_readsItem_L172 N a1 N G_13 tr_14) else zbd (fX5_number N (1 : Int32) (6 : Int32) G tr) (fun r_6 G_7 tr_8 => zin (11 : Int32) 12 (zbo (1 : Int32) (some (0, (up2 (up2 G_7 2 (Int32.toNatClampNeg (11 : Int32)) r_6) 0 13 (1 : Int32)), tr_8))))
def fX5_settles_b82 (N : Nat) (k82 : Int32 → zMem → Int64 → zR) (x1 : Int32) (G : zMem) (tr : Int64) : zR :=
  zin (4 : Int32) 12 (if (G 2 (Int32.toNatClampNeg (4 : Int32))) ≤ x1 then zin (0 : Int32) 2 (zbo (0 : Int32) (zin (1 : Int32) 2 (zbo (0 : Int32) (some (0, (up2 (up2 (up2 (up2 G 0 3 (0 : Int32)) 0 18 (0 : Int32)) 8 (Int32.toNatClampNeg (0 : Int32)) (0 : Int32)) 8 (Int32.toNatClampNeg (1 : Int32)) (0 : Int32)), tr))))) else zin x1 12 (zin ((3 : Int32) + x1) 45 (k82 (x1 + 1) (up2 G 6 (Int32.toNatClampNeg ((3 : Int32) + x1)) (G 5 (Int32.toNatClampNeg x1))) tr)))
def fX5_settles_L82 (N : Nat) : Nat → Int32 → zMem → Int64 → zR
  | 0, _, _, _ => none
  | n + 1, x1, G, tr => fX5_settles_b82 N (fX5_settles_L82 N n) x1 G tr
def fX5_settles_b61 (N : Nat) (k61 : Int32 → zMem → Int64 → zR) (x1 : Int32) (G : zMem) (tr : Int64) : zR :=
  if (45 : Int32) ≤ x1 then fX5_settles_L82 N N (0 : Int32) G tr else zin x1 45 (k61 (x1 + 1) (up2 G 6 (Int32.toNatClampNeg x1) (0 : Int32)) tr)
def fX5_settles_L61 (N : Nat) : Nat → Int32 → zMem → Int64 → zR
  | 0, _, _, _ => none
  | n + 1, x1, G, tr => fX5_settles_b61 N (fX5_settles_L61 N n) x1 G tr
def fX5_settles_b2 (N : Nat) (k2 : Int32 → zMem → Int64 → zR) (x1 : Int32) (G : zMem) (tr : Int64) : zR :=
  if (6 : Int32) ≤ x1 then fX5_settles_L61 N N (0 : Int32) G tr else zin ((6 : Int32) + x1) 12 (zin x1 12 (zin ((6 : Int32) + x1) 12 (zin x1 12 (zin ((6 : Int32) + x1) 12 (zin x1 12 (k2 (x1 + 1) (up2 (up2 (up2 G 2 (Int32.toNatClampNeg x1) (G 2 (Int32.toNatClampNeg ((6 : Int32) + x1)))) 3 (Int32.toNatClampNeg x1) ((up2 G 2 (Int32.toNatClampNeg x1) (G 2 (Int32.toNatClampNeg ((6 : Int32) + x1)))) 3 (Int32.toNatClampNeg ((6 : Int32) + x1)))) 4 (Int32.toNatClampNeg x1) ((up2 (up2 G 2 (Int32.toNatClampNeg x1) (G 2 (Int32.toNatClampNeg ((6 : Int32) + x1)))) 3 (Int32.toNatClampNeg x1) ((up2 G 2 (Int32.toNatClampNeg x1) (G 2 (Int32.toNatClampNeg ((6 : Int32) + x1)))) 3 (Int32.toNatClampNeg ((6 : Int32) + x1)))) 4 (Int32.toNatClampNeg ((6 : Int32) + x1)))) tr))))))
def fX5_settles_L2 (N : Nat) : Nat → Int32 → zMem → Int64 → zR
  | 0, _, _, _ => none
  | n + 1, x1, G, tr => fX5_settles_b2 N (fX5_settles_L2 N n) x1 G tr
def fX5_settles (N : Nat) (G : zMem) (tr : Int64) : zR :=
  fX5_settles_L2 N N (0 : Int32) G tr
def fX5_sea_b140 (N : Nat) (k74 : Int32 → zMem → Int64 → zR) (x1 : Int32) (s0 : Int32) (G : zMem) (tr : Int64) : zR :=
  zbd (fX5_takes N s0 G tr) (fun r_2 G_3 tr_4 => k74 (x1 + 1) G_3 tr_4)
def fX5_sea_b126 (N : Nat) (k74 : Int32 → zMem → Int64 → zR) (x1 : Int32) (G : zMem) (tr : Int64) : zR :=
  if (G 0 5) = (3 : Int32) then fX5_sea_b140 N k74 x1 (1 : Int32) G tr else fX5_sea_b140 N k74 x1 (0 : Int32) G tr
def fX5_sea_b110 (N : Nat) (k74 : Int32 → zMem → Int64 → zR) (x1 : Int32) (s0 : Int32) (G : zMem) (tr : Int64) : zR :=
  zbd (fX5_takes N s0 G tr) (fun r_2 G_3 tr_4 => zbd (fX5_isWell N G_3 tr_4) (fun r_6 G_7 tr_8 => if r_6 = 0 then fX5_sea_b126 N k74 x1 G_7 tr_8 else zbd (fX5_readsItem N r_2 G_7 tr_8) (fun r_11 G_12 tr_13 => fX5_sea_b126 N k74 x1 G_12 tr_13)))
def fX5_sea_b109 (N : Nat) (k74 : Int32 → zMem → Int64 → zR) (x1 : Int32) (G : zMem) (tr : Int64) : zR :=
  fX5_sea_b110 N k74 x1 (0 : Int32) G tr
def fX5_sea_b150 (N : Nat) (x1 : Int32) (G : zMem) (tr : Int64) : zR :=
  zbd (fX5_isWell N G tr) (fun r_2 G_3 tr_4 => if r_2 = 0 then some (((-10 : Int32) - (G_3 0 8)), G_3, tr_4) else zbd (fX5_settles N G_3 tr_4) (fun r_7 G_8 tr_9 => some (x1, G_8, tr_9)))
def fX5_sea_b74 (N : Nat) (k74 : Int32 → zMem → Int64 → zR) (x1 : Int32) (G : zMem) (tr : Int64) : zR :=
  zbd (fX5_isWell N G tr) (fun r_2 G_3 tr_4 => if r_2 = 0 then fX5_sea_b150 N x1 G_3 tr_4 else if (G_3 0 5) = 0 then fX5_sea_b150 N x1 G_3 tr_4 else if (G_3 0 5) = (1 : Int32) then zbd (fX5_mayBegin N x1 G_3 tr_4) (fun r_9 G_10 tr_11 => if r_9 = 0 then fX5_sea_b109 N k74 x1 G_10 tr_11 else fX5_sea_b110 N k74 x1 (1 : Int32) G_10 tr_11) else fX5_sea_b109 N k74 x1 G_3 tr_4)
def fX5_sea_L74 (N : Nat) : Nat → Int32 → zMem → Int64 → zR
  | 0, _, _, _ => none
  | n + 1, x1, G, tr => fX5_sea_b74 N (fX5_sea_L74 N n) x1 G tr
def fX5_sea (N : Nat) (G : zMem) (tr : Int64) : zR :=
  zin (6 : Int32) 12 (zin (7 : Int32) 12 (zin (8 : Int32) 12 (zin (9 : Int32) 12 (zin (10 : Int32) 12 (zin (11 : Int32) 12 (zbo (0 : Int32) (zbd (fX5_advances N (up2 (up2 (up2 (up2 (up2 (up2 (up2 (up2 (up2 (up2 G 0 0 (0 : Int32)) 0 8 (-1 : Int32)) 0 4 (0 : Int32)) 2 (Int32.toNatClampNeg (6 : Int32)) (4 : Int32)) 2 (Int32.toNatClampNeg (7 : Int32)) (4 : Int32)) 2 (Int32.toNatClampNeg (8 : Int32)) (0 : Int32)) 2 (Int32.toNatClampNeg (9 : Int32)) (0 : Int32)) 2 (Int32.toNatClampNeg (10 : Int32)) (0 : Int32)) 2 (Int32.toNatClampNeg (11 : Int32)) (3 : Int32)) 0 13 (0 : Int32)) tr) (fun r_9 G_10 tr_11 => fX5_sea_L74 N N (0 : Int32) G_10 tr_11))))))))
def fX5_isIsle (N : Nat) (a1 : Int32) (G : zMem) (tr : Int64) : zR :=
  zin (2 : Int32) 12 (zbp (fX5_in N a1 (0 : Int32) ((G 2 (Int32.toNatClampNeg (2 : Int32))) - (1 : Int32))) (fun r_3 => zbo r_3 (some (r_3, G, tr))))
def fX5_isLetter (N : Nat) (a1 : Int32) (G : zMem) (tr : Int64) : zR :=
  zin (1 : Int32) 45 (zbp (fX5_in N a1 (0 : Int32) ((G 6 (Int32.toNatClampNeg (1 : Int32))) - (1 : Int32))) (fun r_3 => zbo r_3 (some (r_3, G, tr))))
def fX5_isleAt_b2 (N : Nat) (a1 : Int32) (k2 : Int32 → zMem → Int64 → zR) (x2 : Int32) (G : zMem) (tr : Int64) : zR :=
  zin (2 : Int32) 12 (if (G 2 (Int32.toNatClampNeg (2 : Int32))) ≤ x2 then some ((-9 : Int32), G, tr) else zin x2 12 (if (G 3 (Int32.toNatClampNeg x2)) = a1 then some (x2, G, tr) else k2 (x2 + 1) G tr))
def fX5_isleAt_L2 (N : Nat) (a1 : Int32) : Nat → Int32 → zMem → Int64 → zR
  | 0, _, _, _ => none
  | n + 1, x2, G, tr => fX5_isleAt_b2 N a1 (fX5_isleAt_L2 N a1 n) x2 G tr
def fX5_isleAt (N : Nat) (a1 : Int32) (G : zMem) (tr : Int64) : zR :=
  fX5_isleAt_L2 N a1 N (0 : Int32) G tr
def fX5_isHill_b33 (N : Nat) (a1 : Int32) (k4 : Int32 → Int32 → zMem → Int64 → zR) (x3 : Int32) (s0 : Int32) (G : zMem) (tr : Int64) : zR :=
  k4 s0 (x3 + 1) G tr
def fX5_isHill_b28 (N : Nat) (a1 : Int32) (k4 : Int32 → Int32 → zMem → Int64 → zR) (x3 : Int32) (G : zMem) (tr : Int64) : zR :=
  fX5_isHill_b33 N a1 k4 x3 (1 : Int32) G tr
def fX5_isHill_b4 (N : Nat) (a1 : Int32) (k4 : Int32 → Int32 → zMem → Int64 → zR) (x2 : Int32) (x3 : Int32) (G : zMem) (tr : Int64) : zR :=
  zin (3 : Int32) 12 (if (G 2 (Int32.toNatClampNeg (3 : Int32))) ≤ x3 then zbo x2 (some (x2, G, tr)) else if x2 = 0 then zin x3 12 (if (G 4 (Int32.toNatClampNeg x3)) = a1 then fX5_isHill_b28 N a1 k4 x3 G tr else fX5_isHill_b33 N a1 k4 x3 (0 : Int32) G tr) else fX5_isHill_b28 N a1 k4 x3 G tr)
def fX5_isHill_L4 (N : Nat) (a1 : Int32) : Nat → Int32 → Int32 → zMem → Int64 → zR
  | 0, _, _, _, _ => none
  | n + 1, x2, x3, G, tr => fX5_isHill_b4 N a1 (fX5_isHill_L4 N a1 n) x2 x3 G tr
def fX5_isHill (N : Nat) (a1 : Int32) (G : zMem) (tr : Int64) : zR :=
  fX5_isHill_L4 N a1 N (0 : Int32) (0 : Int32) G tr
def fX5_isle (N : Nat) (a1 : Int32) (a2 : Int32) (G : zMem) (tr : Int64) : zR :=
  zbd (fX5_isIsle N a1 (up2 G 0 0 (0 : Int32)) tr) (fun r_2 G_3 tr_4 => if r_2 = 0 then some ((-1 : Int32), G_3, tr_4) else zbp (fX5_in N a2 (0 : Int32) (1 : Int32)) (fun r_7 => if r_7 = 0 then some ((-1 : Int32), G_3, tr_4) else if a2 = 0 then zin a1 12 (some ((G_3 3 (Int32.toNatClampNeg a1)), G_3, tr_4)) else zin (2 : Int32) 45 (some ((((G_3 6 (Int32.toNatClampNeg (2 : Int32))) >>> (a1 &&& 31)) &&& (1 : Int32)), G_3, tr_4))))
def fX5_cell (N : Nat) (a1 : Int32) (G : zMem) (tr : Int64) : zR :=
  zin (0 : Int32) 12 (zin (1 : Int32) 12 (zbp (fX5_in N a1 (0 : Int32) ((((up2 G 0 0 (0 : Int32)) 2 (Int32.toNatClampNeg (0 : Int32))) * ((up2 G 0 0 (0 : Int32)) 2 (Int32.toNatClampNeg (1 : Int32)))) - (1 : Int32))) (fun r_4 => if r_4 = 0 then some ((-1 : Int32), (up2 G 0 0 (0 : Int32)), tr) else zbd (fX5_isHill N a1 (up2 G 0 0 (0 : Int32)) tr) (fun r_7 G_8 tr_9 => if r_7 = 0 then zbd (fX5_isleAt N a1 G_8 tr_9) (fun r_12 G_13 tr_14 => some (r_12, G_13, tr_14)) else some ((-5 : Int32), G_8, tr_9)))))
def fX5_windOf (N : Nat) (a1 : Int32) (G : zMem) (tr : Int64) : zR :=
  zin (4 : Int32) 12 (if (G 2 (Int32.toNatClampNeg (4 : Int32))) = 0 then some ((4 : Int32), G, tr) else zin (4 : Int32) 12 (zdv (G 2 (Int32.toNatClampNeg (4 : Int32))) (if 0 ≤ (a1 - a1 / (G 2 (Int32.toNatClampNeg (4 : Int32))) * (G 2 (Int32.toNatClampNeg (4 : Int32)))) then zin ((3 : Int32) + (a1 - a1 / (G 2 (Int32.toNatClampNeg (4 : Int32))) * (G 2 (Int32.toNatClampNeg (4 : Int32))))) 45 (some ((G 6 (Int32.toNatClampNeg ((3 : Int32) + (a1 - a1 / (G 2 (Int32.toNatClampNeg (4 : Int32))) * (G 2 (Int32.toNatClampNeg (4 : Int32))))))), G, tr)) else zin (4 : Int32) 12 (zin ((3 : Int32) + ((a1 - a1 / (G 2 (Int32.toNatClampNeg (4 : Int32))) * (G 2 (Int32.toNatClampNeg (4 : Int32)))) + (G 2 (Int32.toNatClampNeg (4 : Int32))))) 45 (some ((G 6 (Int32.toNatClampNeg ((3 : Int32) + ((a1 - a1 / (G 2 (Int32.toNatClampNeg (4 : Int32))) * (G 2 (Int32.toNatClampNeg (4 : Int32)))) + (G 2 (Int32.toNatClampNeg (4 : Int32))))))), G, tr))))))
def fX5_wind (N : Nat) (a1 : Int32) (G : zMem) (tr : Int64) : zR :=
  zbp (fX5_in N a1 (0 : Int32) (400 : Int32)) (fun r_2 => if r_2 = 0 then some ((-1 : Int32), (up2 G 0 0 (0 : Int32)), tr) else zin (0 : Int32) 45 (zbd (fX5_windOf N (((up2 G 0 0 (0 : Int32)) 6 (Int32.toNatClampNeg (0 : Int32))) + a1) (up2 G 0 0 (0 : Int32)) tr) (fun r_6 G_7 tr_8 => some (r_6, G_7, tr_8))))
def fX5_letter (N : Nat) (a1 : Int32) (a2 : Int32) (G : zMem) (tr : Int64) : zR :=
  zbd (fX5_isLetter N a1 (up2 G 0 0 (0 : Int32)) tr) (fun r_2 G_3 tr_4 => if r_2 = 0 then some ((-1 : Int32), G_3, tr_4) else zbp (fX5_in N a2 (0 : Int32) (5 : Int32)) (fun r_7 => if r_7 = 0 then some ((-1 : Int32), G_3, tr_4) else zin (((15 : Int32) + ((6 : Int32) * a1)) + a2) 45 (some ((G_3 6 (Int32.toNatClampNeg (((15 : Int32) + ((6 : Int32) * a1)) + a2))), G_3, tr_4))))
def fX5_now_b55 (N : Nat) (a1 : Int32) (k20 : Int32 → Int32 → zMem → Int64 → zR) (x3 : Int32) (s0 : Int32) (s1 : Int32) (G : zMem) (tr : Int64) : zR :=
  k20 (s1 ||| s0) (x3 + 1) G tr
def fX5_now_b20 (N : Nat) (a1 : Int32) (k20 : Int32 → Int32 → zMem → Int64 → zR) (x2 : Int32) (x3 : Int32) (G : zMem) (tr : Int64) : zR :=
  zin (1 : Int32) 45 (if (G 6 (Int32.toNatClampNeg (1 : Int32))) ≤ x3 then if (2 : Int32) ≤ a1 then if a1 = (2 : Int32) then some (x2, G, tr) else if a1 = (3 : Int32) then zin (2 : Int32) 45 (some ((G 6 (Int32.toNatClampNeg (2 : Int32))), G, tr)) else some ((G 0 18), G, tr) else zin a1 45 (some ((G 6 (Int32.toNatClampNeg a1)), G, tr)) else zin (((15 : Int32) + ((6 : Int32) * x3)) + (5 : Int32)) 45 (if (G 6 (Int32.toNatClampNeg (((15 : Int32) + ((6 : Int32) * x3)) + (5 : Int32)))) = 0 then fX5_now_b55 N a1 k20 x3 ((1 : Int32) <<< (x3 &&& 31)) x2 G tr else fX5_now_b55 N a1 k20 x3 (0 : Int32) x2 G tr))
def fX5_now_L20 (N : Nat) (a1 : Int32) : Nat → Int32 → Int32 → zMem → Int64 → zR
  | 0, _, _, _, _ => none
  | n + 1, x2, x3, G, tr => fX5_now_b20 N a1 (fX5_now_L20 N a1 n) x2 x3 G tr
def fX5_now (N : Nat) (a1 : Int32) (G : zMem) (tr : Int64) : zR :=
  zbp (fX5_in N a1 (0 : Int32) (4 : Int32)) (fun r_2 => if r_2 = 0 then some ((-1 : Int32), (up2 G 0 0 (0 : Int32)), tr) else fX5_now_L20 N a1 N (0 : Int32) (0 : Int32) (up2 G 0 0 (0 : Int32)) tr)
def fX5_notes_b47 (N : Nat) (k47 : Int32 → zMem → Int64 → zR) (x1 : Int32) (G : zMem) (tr : Int64) : zR :=
  if (45 : Int32) ≤ x1 then some (0, (up2 G 0 18 ((G 0 18) + (1 : Int32))), tr) else zin x1 45 (zin (((45 : Int32) * (G 0 18)) + x1) 450 (k47 (x1 + 1) (up2 G 9 (Int32.toNatClampNeg (((45 : Int32) * (G 0 18)) + x1)) (G 6 (Int32.toNatClampNeg x1))) tr))
def fX5_notes_L47 (N : Nat) : Nat → Int32 → zMem → Int64 → zR
  | 0, _, _, _ => none
  | n + 1, x1, G, tr => fX5_notes_b47 N (fX5_notes_L47 N n) x1 G tr
def fX5_notes_b45 (N : Nat) (G : zMem) (tr : Int64) : zR :=
  fX5_notes_L47 N N (0 : Int32) G tr
def fX5_notes_b11 (N : Nat) (k11 : Int32 → zMem → Int64 → zR) (x1 : Int32) (G : zMem) (tr : Int64) : zR :=
  if (405 : Int32) ≤ x1 then fX5_notes_b45 N (up2 G 0 18 (9 : Int32)) tr else zin (x1 + (45 : Int32)) 450 (zin x1 450 (k11 (x1 + 1) (up2 G 9 (Int32.toNatClampNeg x1) (G 9 (Int32.toNatClampNeg (x1 + (45 : Int32))))) tr))
def fX5_notes_L11 (N : Nat) : Nat → Int32 → zMem → Int64 → zR
  | 0, _, _, _ => none
  | n + 1, x1, G, tr => fX5_notes_b11 N (fX5_notes_L11 N n) x1 G tr
def fX5_notes (N : Nat) (G : zMem) (tr : Int64) : zR :=
  if (G 0 18) = (10 : Int32) then fX5_notes_L11 N N (0 : Int32) G tr else fX5_notes_b45 N G tr
def fX5_puts (N : Nat) (a1 : Nat) (a2 : Int32) (a3 : Int32) (a4 : Int32) (a5 : Int32) (G : zMem) (tr : Int64) : zR :=
  zin a2 (mLn a1) (zin (a2 + (1 : Int32)) (mLn a1) (zin (a2 + (2 : Int32)) (mLn a1) (zin a3 12 (zin (a2 + (3 : Int32)) (mLn a1) (zin (a2 + (4 : Int32)) (mLn a1) (zin (a2 + (5 : Int32)) (mLn a1) (some (0, (up2 (up2 (up2 (up2 (up2 (up2 G a1 (Int32.toNatClampNeg a2) a5) a1 (Int32.toNatClampNeg (a2 + (1 : Int32))) a3) a1 (Int32.toNatClampNeg (a2 + (2 : Int32))) a4) a1 (Int32.toNatClampNeg (a2 + (3 : Int32))) ((up2 (up2 (up2 G a1 (Int32.toNatClampNeg a2) a5) a1 (Int32.toNatClampNeg (a2 + (1 : Int32))) a3) a1 (Int32.toNatClampNeg (a2 + (2 : Int32))) a4) 3 (Int32.toNatClampNeg a3))) a1 (Int32.toNatClampNeg (a2 + (4 : Int32))) ((1 : Int32) <<< (a3 &&& 31))) a1 (Int32.toNatClampNeg (a2 + (5 : Int32))) (0 : Int32)), tr))))))))
def fX5_areTwo (N : Nat) (a1 : Int32) (a2 : Int32) (G : zMem) (tr : Int64) : zR :=
  zbd (fX5_isIsle N a1 G tr) (fun r_2 G_3 tr_4 => if r_2 = 0 then zbo (0 : Int32) (some ((0 : Int32), G_3, tr_4)) else zbd (fX5_isIsle N a2 G_3 tr_4) (fun r_7 G_8 tr_9 => if r_7 = 0 then zbo (0 : Int32) (some ((0 : Int32), G_8, tr_9)) else if a1 = a2 then zbo (0 : Int32) (some ((0 : Int32), G_8, tr_9)) else zbo (1 : Int32) (some ((1 : Int32), G_8, tr_9))))
def fX5_lets (N : Nat) (a1 : Int32) (a2 : Int32) (a3 : Int32) (G : zMem) (tr : Int64) : zR :=
  zbd (fX5_areTwo N a1 a2 (up2 G 0 0 (0 : Int32)) tr) (fun r_2 G_3 tr_4 => if r_2 = 0 then some ((-1 : Int32), G_3, tr_4) else zbp (fX5_in N a3 (1 : Int32) (5 : Int32)) (fun r_7 => if r_7 = 0 then some ((-1 : Int32), G_3, tr_4) else zin (1 : Int32) 45 (if (G_3 6 (Int32.toNatClampNeg (1 : Int32))) = (5 : Int32) then some ((-3 : Int32), G_3, tr_4) else zbd (fX5_notes N G_3 tr_4) (fun r_12 G_13 tr_14 => zin (1 : Int32) 45 (zbd (fX5_puts N 6 ((15 : Int32) + ((6 : Int32) * (G_13 6 (Int32.toNatClampNeg (1 : Int32))))) a1 a2 a3 G_13 tr_14) (fun r_17 G_18 tr_19 => zin (1 : Int32) 45 (zin (1 : Int32) 45 (zin (1 : Int32) 45 (some ((((up2 G_18 6 (Int32.toNatClampNeg (1 : Int32)) ((G_18 6 (Int32.toNatClampNeg (1 : Int32))) + (1 : Int32))) 6 (Int32.toNatClampNeg (1 : Int32))) - (1 : Int32)), (up2 G_18 6 (Int32.toNatClampNeg (1 : Int32)) ((G_18 6 (Int32.toNatClampNeg (1 : Int32))) + (1 : Int32))), tr_19))))))))))
def fX5_beside_b110 (N : Nat) (a1 : Int32) (a2 : Int32) (x3 : Int32) (s0 : Int32) (G : zMem) (tr : Int64) : zR :=
  zin (0 : Int32) 12 (some ((((G 2 (Int32.toNatClampNeg (0 : Int32))) * s0) + x3), G, tr))
def fX5_beside_b63 (N : Nat) (a1 : Int32) (a2 : Int32) (x4 : Int32) (s0 : Int32) (G : zMem) (tr : Int64) : zR :=
  if a2 = (2 : Int32) then zin (1 : Int32) 12 (zdv (G 2 (Int32.toNatClampNeg (1 : Int32))) (fX5_beside_b110 N a1 a2 s0 ((x4 + (1 : Int32)) - (x4 + (1 : Int32)) / (G 2 (Int32.toNatClampNeg (1 : Int32))) * (G 2 (Int32.toNatClampNeg (1 : Int32)))) G tr)) else if a2 = 0 then zin (1 : Int32) 12 (zin (1 : Int32) 12 (zdv (G 2 (Int32.toNatClampNeg (1 : Int32))) (fX5_beside_b110 N a1 a2 s0 (((x4 + (G 2 (Int32.toNatClampNeg (1 : Int32)))) - (1 : Int32)) - ((x4 + (G 2 (Int32.toNatClampNeg (1 : Int32)))) - (1 : Int32)) / (G 2 (Int32.toNatClampNeg (1 : Int32))) * (G 2 (Int32.toNatClampNeg (1 : Int32)))) G tr))) else fX5_beside_b110 N a1 a2 s0 x4 G tr
def fX5_beside (N : Nat) (a1 : Int32) (a2 : Int32) (G : zMem) (tr : Int64) : zR :=
  zin (0 : Int32) 12 (zdv (G 2 (Int32.toNatClampNeg (0 : Int32))) (zin (0 : Int32) 12 (zdv (G 2 (Int32.toNatClampNeg (0 : Int32))) (if a2 = (1 : Int32) then zin (0 : Int32) 12 (zdv (G 2 (Int32.toNatClampNeg (0 : Int32))) (fX5_beside_b63 N a1 a2 (a1 / (G 2 (Int32.toNatClampNeg (0 : Int32)))) (((a1 - a1 / (G 2 (Int32.toNatClampNeg (0 : Int32))) * (G 2 (Int32.toNatClampNeg (0 : Int32)))) + (1 : Int32)) - ((a1 - a1 / (G 2 (Int32.toNatClampNeg (0 : Int32))) * (G 2 (Int32.toNatClampNeg (0 : Int32)))) + (1 : Int32)) / (G 2 (Int32.toNatClampNeg (0 : Int32))) * (G 2 (Int32.toNatClampNeg (0 : Int32)))) G tr)) else if a2 = (3 : Int32) then zin (0 : Int32) 12 (zin (0 : Int32) 12 (zdv (G 2 (Int32.toNatClampNeg (0 : Int32))) (fX5_beside_b63 N a1 a2 (a1 / (G 2 (Int32.toNatClampNeg (0 : Int32)))) ((((a1 - a1 / (G 2 (Int32.toNatClampNeg (0 : Int32))) * (G 2 (Int32.toNatClampNeg (0 : Int32)))) + (G 2 (Int32.toNatClampNeg (0 : Int32)))) - (1 : Int32)) - (((a1 - a1 / (G 2 (Int32.toNatClampNeg (0 : Int32))) * (G 2 (Int32.toNatClampNeg (0 : Int32)))) + (G 2 (Int32.toNatClampNeg (0 : Int32)))) - (1 : Int32)) / (G 2 (Int32.toNatClampNeg (0 : Int32))) * (G 2 (Int32.toNatClampNeg (0 : Int32)))) G tr))) else fX5_beside_b63 N a1 a2 (a1 / (G 2 (Int32.toNatClampNeg (0 : Int32)))) (a1 - a1 / (G 2 (Int32.toNatClampNeg (0 : Int32))) * (G 2 (Int32.toNatClampNeg (0 : Int32)))) G tr))))
def fX5_blows_b190 (N : Nat) (a1 : Nat) (a2 : Int32) (a3 : Int32) (a4 : Int32) (s0 : Int32) (s1 : Int32) (G : zMem) (tr : Int64) : zR :=
  zin s1 (mLn a1) (some (0, (up2 G a1 (Int32.toNatClampNeg s1) s0), tr))
def fX5_blows_b165 (N : Nat) (a1 : Nat) (a2 : Int32) (a3 : Int32) (a4 : Int32) (x8 : Int32) (x9 : Int32) (s0 : Int32) (s1 : Int32) (s2 : Int32) (G : zMem) (tr : Int64) : zR :=
  zin s2 (mLn a1) (if x8 = 0 then if x9 = 0 then fX5_blows_b190 N a1 a2 a3 a4 (0 : Int32) (a2 + (5 : Int32)) (up2 G a1 (Int32.toNatClampNeg s2) (s1 ||| s0)) tr else fX5_blows_b190 N a1 a2 a3 a4 (2 : Int32) (a2 + (5 : Int32)) (up2 G a1 (Int32.toNatClampNeg s2) (s1 ||| s0)) tr else fX5_blows_b190 N a1 a2 a3 a4 (1 : Int32) (a2 + (5 : Int32)) (up2 G a1 (Int32.toNatClampNeg s2) (s1 ||| s0)) tr)
def fX5_blows_b144 (N : Nat) (a1 : Nat) (a2 : Int32) (a3 : Int32) (a4 : Int32) (x7 : Int32) (x8 : Int32) (s0 : Int32) (G : zMem) (tr : Int64) : zR :=
  zin (a2 + (4 : Int32)) (mLn a1) (if s0 = 0 then fX5_blows_b165 N a1 a2 a3 a4 x8 s0 ((1 : Int32) <<< (x7 &&& 31)) (G a1 (Int32.toNatClampNeg (a2 + (4 : Int32)))) (a2 + (4 : Int32)) G tr else fX5_blows_b165 N a1 a2 a3 a4 x8 s0 (0 : Int32) (G a1 (Int32.toNatClampNeg (a2 + (4 : Int32)))) (a2 + (4 : Int32)) G tr)
def fX5_blows_b143 (N : Nat) (a1 : Nat) (a2 : Int32) (a3 : Int32) (a4 : Int32) (x7 : Int32) (x8 : Int32) (G : zMem) (tr : Int64) : zR :=
  fX5_blows_b144 N a1 a2 a3 a4 x7 x8 (0 : Int32) G tr
def fX5_blows_b121 (N : Nat) (a1 : Nat) (a2 : Int32) (a3 : Int32) (a4 : Int32) (x7 : Int32) (s0 : Int32) (G : zMem) (tr : Int64) : zR :=
  if s0 = 0 then if ((a4 >>> (x7 &&& 31)) &&& (1 : Int32)) = (1 : Int32) then fX5_blows_b144 N a1 a2 a3 a4 x7 s0 (1 : Int32) G tr else fX5_blows_b143 N a1 a2 a3 a4 x7 s0 G tr else fX5_blows_b143 N a1 a2 a3 a4 x7 s0 G tr
def fX5_blows_b97 (N : Nat) (a1 : Nat) (a2 : Int32) (a3 : Int32) (a4 : Int32) (s0 : Int32) (G : zMem) (tr : Int64) : zR :=
  if s0 = (-9 : Int32) then some (0, G, tr) else zin (a2 + (2 : Int32)) (mLn a1) (if s0 = (G a1 (Int32.toNatClampNeg (a2 + (2 : Int32)))) then fX5_blows_b121 N a1 a2 a3 a4 s0 (1 : Int32) G tr else fX5_blows_b121 N a1 a2 a3 a4 s0 (0 : Int32) G tr)
def fX5_blows_b78 (N : Nat) (a1 : Nat) (a2 : Int32) (a3 : Int32) (a4 : Int32) (x6 : Int32) (G : zMem) (tr : Int64) : zR :=
  if x6 = 0 then fX5_blows_b97 N a1 a2 a3 a4 (-9 : Int32) G tr else zin (a2 + (3 : Int32)) (mLn a1) (zbd (fX5_isleAt N (G a1 (Int32.toNatClampNeg (a2 + (3 : Int32)))) G tr) (fun r_4 G_5 tr_6 => fX5_blows_b97 N a1 a2 a3 a4 r_4 G_5 tr_6))
def fX5_blows_b32 (N : Nat) (a1 : Nat) (a2 : Int32) (a3 : Int32) (a4 : Int32) (k32 : Int32 → Int32 → zMem → Int64 → zR) (x5 : Int32) (x6 : Int32) (G : zMem) (tr : Int64) : zR :=
  if x5 ≤ 0 then fX5_blows_b78 N a1 a2 a3 a4 x6 G tr else zin (a2 + (3 : Int32)) (mLn a1) (zbd (fX5_beside N (G a1 (Int32.toNatClampNeg (a2 + (3 : Int32)))) a3 G tr) (fun r_4 G_5 tr_6 => zbd (fX5_isHill N r_4 G_5 tr_6) (fun r_8 G_9 tr_10 => if r_8 = 0 then zin (a2 + (3 : Int32)) (mLn a1) (zbd (fX5_beside N (G_9 a1 (Int32.toNatClampNeg (a2 + (3 : Int32)))) a3 G_9 tr_10) (fun r_14 G_15 tr_16 => zin (a2 + (3 : Int32)) (mLn a1) (k32 (x5 + (-1)) (1 : Int32) (up2 G_15 a1 (Int32.toNatClampNeg (a2 + (3 : Int32))) r_14) tr_16))) else fX5_blows_b78 N a1 a2 a3 a4 x6 G_9 tr_10)))
def fX5_blows_L32 (N : Nat) (a1 : Nat) (a2 : Int32) (a3 : Int32) (a4 : Int32) : Nat → Int32 → Int32 → zMem → Int64 → zR
  | 0, _, _, _, _ => none
  | n + 1, x5, x6, G, tr => fX5_blows_b32 N a1 a2 a3 a4 (fX5_blows_L32 N a1 a2 a3 a4 n) x5 x6 G tr
def fX5_blows_b27 (N : Nat) (a1 : Nat) (a2 : Int32) (a3 : Int32) (a4 : Int32) (s0 : Int32) (G : zMem) (tr : Int64) : zR :=
  fX5_blows_L32 N a1 a2 a3 a4 N s0 (0 : Int32) G tr
def fX5_blows_b13 (N : Nat) (a1 : Nat) (a2 : Int32) (a3 : Int32) (a4 : Int32) (G : zMem) (tr : Int64) : zR :=
  fX5_blows_b27 N a1 a2 a3 a4 (0 : Int32) G tr
def fX5_blows (N : Nat) (a1 : Nat) (a2 : Int32) (a3 : Int32) (a4 : Int32) (G : zMem) (tr : Int64) : zR :=
  if a3 = (4 : Int32) then fX5_blows_b13 N a1 a2 a3 a4 G tr else zin (a2 + (5 : Int32)) (mLn a1) (if (G a1 (Int32.toNatClampNeg (a2 + (5 : Int32)))) = 0 then zin (5 : Int32) 12 (zin a2 (mLn a1) (fX5_blows_b27 N a1 a2 a3 a4 ((G 2 (Int32.toNatClampNeg (5 : Int32))) - (G a1 (Int32.toNatClampNeg a2))) G tr)) else fX5_blows_b13 N a1 a2 a3 a4 G tr)
def fX5_hour_b110 (N : Nat) (k39 : Int32 → Int32 → Int32 → zMem → Int64 → zR) (x2 : Int32) (x3 : Int32) (s0 : Int32) (s1 : Int32) (G : zMem) (tr : Int64) : zR :=
  k39 (s1 + s0) x2 (x3 + 1) G tr
def fX5_hour_b109 (N : Nat) (k39 : Int32 → Int32 → Int32 → zMem → Int64 → zR) (x2 : Int32) (x3 : Int32) (s0 : Int32) (G : zMem) (tr : Int64) : zR :=
  fX5_hour_b110 N k39 x2 x3 (0 : Int32) s0 G tr
def fX5_hour_b39 (N : Nat) (k39 : Int32 → Int32 → Int32 → zMem → Int64 → zR) (x1 : Int32) (x2 : Int32) (x3 : Int32) (G : zMem) (tr : Int64) : zR :=
  zin (1 : Int32) 45 (if (G 6 (Int32.toNatClampNeg (1 : Int32))) ≤ x3 then zin (0 : Int32) 45 (zin (0 : Int32) 45 (some (x1, (up2 G 6 (Int32.toNatClampNeg (0 : Int32)) ((G 6 (Int32.toNatClampNeg (0 : Int32))) + (1 : Int32))), tr))) else zin (((15 : Int32) + ((6 : Int32) * x3)) + (5 : Int32)) 45 (zin (2 : Int32) 45 (zbd (fX5_blows N 6 ((15 : Int32) + ((6 : Int32) * x3)) x2 (G 6 (Int32.toNatClampNeg (2 : Int32))) G tr) (fun r_8 G_9 tr_10 => if (G 6 (Int32.toNatClampNeg (((15 : Int32) + ((6 : Int32) * x3)) + (5 : Int32)))) = 0 then zin (((15 : Int32) + ((6 : Int32) * x3)) + (5 : Int32)) 45 (if (G_9 6 (Int32.toNatClampNeg (((15 : Int32) + ((6 : Int32) * x3)) + (5 : Int32)))) = (1 : Int32) then fX5_hour_b110 N k39 x2 x3 (1 : Int32) x1 G_9 tr_10 else fX5_hour_b109 N k39 x2 x3 x1 G_9 tr_10) else fX5_hour_b109 N k39 x2 x3 x1 G_9 tr_10))))
def fX5_hour_L39 (N : Nat) : Nat → Int32 → Int32 → Int32 → zMem → Int64 → zR
  | 0, _, _, _, _, _ => none
  | n + 1, x1, x2, x3, G, tr => fX5_hour_b39 N (fX5_hour_L39 N n) x1 x2 x3 G tr
def fX5_hour (N : Nat) (G : zMem) (tr : Int64) : zR :=
  zin (0 : Int32) 45 (if ((up2 G 0 0 (0 : Int32)) 6 (Int32.toNatClampNeg (0 : Int32))) = (9999 : Int32) then some ((-2 : Int32), (up2 G 0 0 (0 : Int32)), tr) else zbd (fX5_notes N (up2 G 0 0 (0 : Int32)) tr) (fun r_4 G_5 tr_6 => zin (0 : Int32) 45 (zbd (fX5_windOf N (G_5 6 (Int32.toNatClampNeg (0 : Int32))) G_5 tr_6) (fun r_9 G_10 tr_11 => fX5_hour_L39 N N (0 : Int32) r_9 (0 : Int32) G_10 tr_11))))
def fX5_net (N : Nat) (a1 : Int32) (a2 : Int32) (G : zMem) (tr : Int64) : zR :=
  zbd (fX5_isIsle N a1 (up2 G 0 0 (0 : Int32)) tr) (fun r_2 G_3 tr_4 => if r_2 = 0 then some ((-1 : Int32), G_3, tr_4) else zbp (fX5_in N a2 (0 : Int32) (1 : Int32)) (fun r_7 => if r_7 = 0 then some ((-1 : Int32), G_3, tr_4) else zbd (fX5_notes N G_3 tr_4) (fun r_10 G_11 tr_12 => zin (2 : Int32) 45 (zin (2 : Int32) 45 (zin (2 : Int32) 45 (some ((((G_11 6 (Int32.toNatClampNeg (2 : Int32))) >>> (a1 &&& 31)) &&& (1 : Int32)), (up2 G_11 6 (Int32.toNatClampNeg (2 : Int32)) (((G_11 6 (Int32.toNatClampNeg (2 : Int32))) &&& (((1 : Int32) <<< (a1 &&& 31)) ^^^ (-1 : Int32))) ||| (a2 <<< (a1 &&& 31)))), tr_12)))))))
def fX5_turn (N : Nat) (a1 : Int32) (a2 : Int32) (G : zMem) (tr : Int64) : zR :=
  zin (4 : Int32) 12 (zbp (fX5_in N a1 (0 : Int32) (((up2 G 0 0 (0 : Int32)) 2 (Int32.toNatClampNeg (4 : Int32))) - (1 : Int32))) (fun r_3 => if r_3 = 0 then some ((-1 : Int32), (up2 G 0 0 (0 : Int32)), tr) else zbp (fX5_in N a2 (0 : Int32) (4 : Int32)) (fun r_6 => if r_6 = 0 then some ((-1 : Int32), (up2 G 0 0 (0 : Int32)), tr) else zbd (fX5_notes N (up2 G 0 0 (0 : Int32)) tr) (fun r_9 G_10 tr_11 => zin ((3 : Int32) + a1) 45 (zin ((3 : Int32) + a1) 45 (some ((G_10 6 (Int32.toNatClampNeg ((3 : Int32) + a1))), (up2 G_10 6 (Int32.toNatClampNeg ((3 : Int32) + a1)) a2), tr_11)))))))
def fX5_undo_b27 (N : Nat) (k27 : Int32 → zMem → Int64 → zR) (x1 : Int32) (G : zMem) (tr : Int64) : zR :=
  if (45 : Int32) ≤ x1 then some ((G 0 18), G, tr) else zin (((45 : Int32) * (G 0 18)) + x1) 450 (zin x1 45 (k27 (x1 + 1) (up2 G 6 (Int32.toNatClampNeg x1) (G 9 (Int32.toNatClampNeg (((45 : Int32) * (G 0 18)) + x1)))) tr))
def fX5_undo_L27 (N : Nat) : Nat → Int32 → zMem → Int64 → zR
  | 0, _, _, _ => none
  | n + 1, x1, G, tr => fX5_undo_b27 N (fX5_undo_L27 N n) x1 G tr
def fX5_undo (N : Nat) (G : zMem) (tr : Int64) : zR :=
  if ((up2 G 0 0 (0 : Int32)) 0 18) = 0 then some ((-2 : Int32), (up2 G 0 0 (0 : Int32)), tr) else fX5_undo_L27 N N (0 : Int32) (up2 (up2 G 0 0 (0 : Int32)) 0 18 (((up2 G 0 0 (0 : Int32)) 0 18) - (1 : Int32))) tr
def fX5_takesLetter_b2 (N : Nat) (a1 : Nat) (a2 : Int32) (k2 : Int32 → zMem → Int64 → zR) (x3 : Int32) (G : zMem) (tr : Int64) : zR :=
  if (6 : Int32) ≤ x3 then some (0, G, tr) else zin (((15 : Int32) + ((6 : Int32) * a2)) + x3) 45 (zin x3 (mLn a1) (k2 (x3 + 1) (up2 G a1 (Int32.toNatClampNeg x3) (G 6 (Int32.toNatClampNeg (((15 : Int32) + ((6 : Int32) * a2)) + x3)))) tr))
def fX5_takesLetter_L2 (N : Nat) (a1 : Nat) (a2 : Int32) : Nat → Int32 → zMem → Int64 → zR
  | 0, _, _, _ => none
  | n + 1, x3, G, tr => fX5_takesLetter_b2 N a1 a2 (fX5_takesLetter_L2 N a1 a2 n) x3 G tr
def fX5_takesLetter (N : Nat) (a1 : Nat) (a2 : Int32) (G : zMem) (tr : Int64) : zR :=
  fX5_takesLetter_L2 N a1 a2 N (0 : Int32) G tr
def fX5_goes_b11 (N : Nat) (a1 : Int32) (a2 : Int32) (k11 : Int32 → zMem → Int64 → zR) (x3 : Int32) (G : zMem) (tr : Int64) : zR :=
  if a2 ≤ x3 then some (0, G, tr) else zin (0 : Int32) 45 (zbd (fX5_windOf N ((G 6 (Int32.toNatClampNeg (0 : Int32))) + x3) G tr) (fun r_4 G_5 tr_6 => zin (2 : Int32) 45 (zbd (fX5_blows N 10 (0 : Int32) r_4 (G_5 6 (Int32.toNatClampNeg (2 : Int32))) G_5 tr_6) (fun r_9 G_10 tr_11 => k11 (x3 + 1) G_10 tr_11))))
def fX5_goes_L11 (N : Nat) (a1 : Int32) (a2 : Int32) : Nat → Int32 → zMem → Int64 → zR
  | 0, _, _, _ => none
  | n + 1, x3, G, tr => fX5_goes_b11 N a1 a2 (fX5_goes_L11 N a1 a2 n) x3 G tr
def fX5_goes (N : Nat) (a1 : Int32) (a2 : Int32) (G : zMem) (tr : Int64) : zR :=
  zbd (fX5_takesLetter N 10 a1 G tr) (fun r_2 G_3 tr_4 => fX5_goes_L11 N a1 a2 N (0 : Int32) G_3 tr_4)
def fX5_where (N : Nat) (a1 : Int32) (a2 : Int32) (G : zMem) (tr : Int64) : zR :=
  zbd (fX5_isLetter N a1 (up2 G 0 0 (0 : Int32)) tr) (fun r_2 G_3 tr_4 => if r_2 = 0 then some ((-1 : Int32), G_3, tr_4) else zbp (fX5_in N a2 (0 : Int32) (60 : Int32)) (fun r_7 => if r_7 = 0 then some ((-1 : Int32), G_3, tr_4) else zbd (fX5_goes N a1 a2 G_3 tr_4) (fun r_10 G_11 tr_12 => zin (3 : Int32) 6 (some ((G_11 10 (Int32.toNatClampNeg (3 : Int32))), G_11, tr_12)))))
def fX5_comesIn_b2 (N : Nat) (a1 : Int32) (a2 : Int32) (k2 : Int32 → zMem → Int64 → zR) (x3 : Int32) (G : zMem) (tr : Int64) : zR :=
  if (400 : Int32) < x3 then some ((-9 : Int32), G, tr) else zin (5 : Int32) 6 (if (G 10 (Int32.toNatClampNeg (5 : Int32))) = (1 : Int32) then some (x3, G, tr) else zin (0 : Int32) 45 (zbd (fX5_windOf N (((G 6 (Int32.toNatClampNeg (0 : Int32))) + a1) + x3) G tr) (fun r_6 G_7 tr_8 => zbd (fX5_blows N 10 (0 : Int32) r_6 a2 G_7 tr_8) (fun r_10 G_11 tr_12 => k2 (x3 + 1) G_11 tr_12))))
def fX5_comesIn_L2 (N : Nat) (a1 : Int32) (a2 : Int32) : Nat → Int32 → zMem → Int64 → zR
  | 0, _, _, _ => none
  | n + 1, x3, G, tr => fX5_comesIn_b2 N a1 a2 (fX5_comesIn_L2 N a1 a2 n) x3 G tr
def fX5_comesIn (N : Nat) (a1 : Int32) (a2 : Int32) (G : zMem) (tr : Int64) : zR :=
  fX5_comesIn_L2 N a1 a2 N (0 : Int32) G tr
def fX5_comes (N : Nat) (a1 : Int32) (G : zMem) (tr : Int64) : zR :=
  zbd (fX5_isLetter N a1 (up2 G 0 0 (0 : Int32)) tr) (fun r_2 G_3 tr_4 => if r_2 = 0 then some ((-1 : Int32), G_3, tr_4) else zbd (fX5_takesLetter N 10 a1 G_3 tr_4) (fun r_7 G_8 tr_9 => zin (2 : Int32) 45 (zbd (fX5_comesIn N (0 : Int32) (G_8 6 (Int32.toNatClampNeg (2 : Int32))) G_8 tr_9) (fun r_12 G_13 tr_14 => some (r_12, G_13, tr_14)))))
def fX5_blots (N : Nat) (a1 : Int32) (a2 : Int32) (G : zMem) (tr : Int64) : zR :=
  zbd (fX5_isLetter N a1 (up2 G 0 0 (0 : Int32)) tr) (fun r_2 G_3 tr_4 => if r_2 = 0 then some ((-1 : Int32), G_3, tr_4) else zbp (fX5_in N a2 (0 : Int32) (60 : Int32)) (fun r_7 => if r_7 = 0 then some ((-1 : Int32), G_3, tr_4) else zbd (fX5_goes N a1 a2 G_3 tr_4) (fun r_10 G_11 tr_12 => zin (4 : Int32) 6 (some ((G_11 10 (Int32.toNatClampNeg (4 : Int32))), G_11, tr_12)))))
def fX5_loop_b108 (N : Nat) (a1 : Int32) (k68 : Int32 → Int32 → zMem → Int64 → zR) (k108 : Int32 → Int32 → Int32 → zMem → Int64 → zR) (x2 : Int32) (x3 : Int32) (x4 : Int32) (G : zMem) (tr : Int64) : zR :=
  if x2 ≤ x4 then k68 x2 (x3 + 1) G tr else zin (0 : Int32) 45 (zbd (fX5_windOf N ((G 6 (Int32.toNatClampNeg (0 : Int32))) + x4) G tr) (fun r_4 G_5 tr_6 => zin (2 : Int32) 45 (zbd (fX5_blows N 10 (0 : Int32) r_4 (G_5 6 (Int32.toNatClampNeg (2 : Int32))) G_5 tr_6) (fun r_9 G_10 tr_11 => k108 x2 x3 (x4 + 1) G_10 tr_11))))
def fX5_loop_L108 (N : Nat) (a1 : Int32) (k68 : Int32 → Int32 → zMem → Int64 → zR) : Nat → Int32 → Int32 → Int32 → zMem → Int64 → zR
  | 0, _, _, _, _, _ => none
  | n + 1, x2, x3, x4, G, tr => fX5_loop_b108 N a1 k68 (fX5_loop_L108 N a1 k68 n) x2 x3 x4 G tr
def fX5_loop_b154 (N : Nat) (a1 : Int32) (x2 : Int32) (x3 : Int32) (G : zMem) (tr : Int64) : zR :=
  zin (5 : Int32) 6 (if (G 10 (Int32.toNatClampNeg (5 : Int32))) = 0 then zin (3 : Int32) 6 (zin (G 10 (Int32.toNatClampNeg (3 : Int32))) 30 (some ((x2 * (x3 - (G 12 (Int32.toNatClampNeg (G 10 (Int32.toNatClampNeg (3 : Int32))))))), G, tr))) else some ((-9 : Int32), G, tr))
def fX5_loop_b68 (N : Nat) (a1 : Int32) (k68 : Int32 → Int32 → zMem → Int64 → zR) (x2 : Int32) (x3 : Int32) (G : zMem) (tr : Int64) : zR :=
  zin (5 : Int32) 6 (if (G 10 (Int32.toNatClampNeg (5 : Int32))) = 0 then zin (3 : Int32) 6 (zin (G 10 (Int32.toNatClampNeg (3 : Int32))) 30 (if (G 12 (Int32.toNatClampNeg (G 10 (Int32.toNatClampNeg (3 : Int32))))) = (-9 : Int32) then zin (3 : Int32) 6 (zin (G 10 (Int32.toNatClampNeg (3 : Int32))) 30 (fX5_loop_L108 N a1 k68 N x2 x3 (0 : Int32) (up2 G 12 (Int32.toNatClampNeg (G 10 (Int32.toNatClampNeg (3 : Int32)))) x3) tr)) else fX5_loop_b154 N a1 x2 x3 G tr)) else fX5_loop_b154 N a1 x2 x3 G tr)
def fX5_loop_L68 (N : Nat) (a1 : Int32) : Nat → Int32 → Int32 → zMem → Int64 → zR
  | 0, _, _, _, _ => none
  | n + 1, x2, x3, G, tr => fX5_loop_b68 N a1 (fX5_loop_L68 N a1 n) x2 x3 G tr
def fX5_loop_b37 (N : Nat) (a1 : Int32) (k37 : Int32 → Int32 → zMem → Int64 → zR) (x2 : Int32) (x3 : Int32) (G : zMem) (tr : Int64) : zR :=
  if (30 : Int32) ≤ x3 then zbd (fX5_takesLetter N 10 a1 G tr) (fun r_3 G_4 tr_5 => fX5_loop_L68 N a1 N x2 (0 : Int32) G_4 tr_5) else zin x3 30 (k37 x2 (x3 + 1) (up2 G 12 (Int32.toNatClampNeg x3) (-9 : Int32)) tr)
def fX5_loop_L37 (N : Nat) (a1 : Int32) : Nat → Int32 → Int32 → zMem → Int64 → zR
  | 0, _, _, _, _ => none
  | n + 1, x2, x3, G, tr => fX5_loop_b37 N a1 (fX5_loop_L37 N a1 n) x2 x3 G tr
def fX5_loop_b34 (N : Nat) (a1 : Int32) (s0 : Int32) (G : zMem) (tr : Int64) : zR :=
  fX5_loop_L37 N a1 N s0 (0 : Int32) G tr
def fX5_loop (N : Nat) (a1 : Int32) (G : zMem) (tr : Int64) : zR :=
  zbd (fX5_isLetter N a1 (up2 G 0 0 (0 : Int32)) tr) (fun r_2 G_3 tr_4 => if r_2 = 0 then some ((-1 : Int32), G_3, tr_4) else zin (4 : Int32) 12 (if (G_3 2 (Int32.toNatClampNeg (4 : Int32))) = 0 then fX5_loop_b34 N a1 (1 : Int32) G_3 tr_4 else zin (4 : Int32) 12 (fX5_loop_b34 N a1 (G_3 2 (Int32.toNatClampNeg (4 : Int32))) G_3 tr_4)))
def fX5_tangled_b90 (N : Nat) (a1 : Int32) (a2 : Int32) (k48 : Int32 → zMem → Int64 → zR) (x3 : Int32) (G : zMem) (tr : Int64) : zR :=
  zin (0 : Int32) 45 (zbd (fX5_windOf N ((G 6 (Int32.toNatClampNeg (0 : Int32))) + x3) G tr) (fun r_3 G_4 tr_5 => zin (2 : Int32) 45 (zbd (fX5_blows N 10 (0 : Int32) r_3 (G_4 6 (Int32.toNatClampNeg (2 : Int32))) G_4 tr_5) (fun r_8 G_9 tr_10 => zin (0 : Int32) 45 (zbd (fX5_windOf N ((G_9 6 (Int32.toNatClampNeg (0 : Int32))) + x3) G_9 tr_10) (fun r_13 G_14 tr_15 => zin (2 : Int32) 45 (zbd (fX5_blows N 11 (0 : Int32) r_13 (G_14 6 (Int32.toNatClampNeg (2 : Int32))) G_14 tr_15) (fun r_18 G_19 tr_20 => k48 (x3 + 1) G_19 tr_20))))))))
def fX5_tangled_b48 (N : Nat) (a1 : Int32) (a2 : Int32) (k48 : Int32 → zMem → Int64 → zR) (x3 : Int32) (G : zMem) (tr : Int64) : zR :=
  if (400 : Int32) < x3 then some ((-9 : Int32), G, tr) else zin (5 : Int32) 6 (if (G 10 (Int32.toNatClampNeg (5 : Int32))) = 0 then zin (5 : Int32) 6 (if (G 11 (Int32.toNatClampNeg (5 : Int32))) = 0 then zin (3 : Int32) 6 (zin (3 : Int32) 6 (if (G 10 (Int32.toNatClampNeg (3 : Int32))) = (G 11 (Int32.toNatClampNeg (3 : Int32))) then some (x3, G, tr) else fX5_tangled_b90 N a1 a2 k48 x3 G tr)) else fX5_tangled_b90 N a1 a2 k48 x3 G tr) else fX5_tangled_b90 N a1 a2 k48 x3 G tr)
def fX5_tangled_L48 (N : Nat) (a1 : Int32) (a2 : Int32) : Nat → Int32 → zMem → Int64 → zR
  | 0, _, _, _ => none
  | n + 1, x3, G, tr => fX5_tangled_b48 N a1 a2 (fX5_tangled_L48 N a1 a2 n) x3 G tr
def fX5_tangled (N : Nat) (a1 : Int32) (a2 : Int32) (G : zMem) (tr : Int64) : zR :=
  zbd (fX5_isLetter N a1 (up2 G 0 0 (0 : Int32)) tr) (fun r_2 G_3 tr_4 => if r_2 = 0 then some ((-1 : Int32), G_3, tr_4) else zbd (fX5_isLetter N a2 G_3 tr_4) (fun r_7 G_8 tr_9 => if r_7 = 0 then some ((-1 : Int32), G_8, tr_9) else if a1 = a2 then some ((-1 : Int32), G_8, tr_9) else zbd (fX5_takesLetter N 10 a1 G_8 tr_9) (fun r_13 G_14 tr_15 => zbd (fX5_takesLetter N 11 a2 G_14 tr_15) (fun r_17 G_18 tr_19 => fX5_tangled_L48 N a1 a2 N (0 : Int32) G_18 tr_19))))
def fX5_comesBy (N : Nat) (a1 : Int32) (a2 : Int32) (a3 : Int32) (a4 : Int32) (a5 : Int32) (G : zMem) (tr : Int64) : zR :=
  zbd (fX5_puts N 10 (0 : Int32) a1 a2 a3 G tr) (fun r_2 G_3 tr_4 => zbd (fX5_comesIn N a4 a5 G_3 tr_4) (fun r_6 G_7 tr_8 => some (r_6, G_7, tr_8)))
def fX5_bestK_b65 (N : Nat) (a1 : Int32) (a2 : Int32) (a3 : Int32) (a4 : Int32) (k10 : Int32 → Int32 → Int32 → zMem → Int64 → zR) (x5 : Int32) (x6 : Int32) (x7 : Int32) (G : zMem) (tr : Int64) : zR :=
  k10 x5 x6 (x7 + 1) G tr
def fX5_bestK_b54 (N : Nat) (a1 : Int32) (a2 : Int32) (a3 : Int32) (a4 : Int32) (k10 : Int32 → Int32 → Int32 → zMem → Int64 → zR) (x7 : Int32) (x8 : Int32) (G : zMem) (tr : Int64) : zR :=
  fX5_bestK_b65 N a1 a2 a3 a4 k10 x7 (x7 + x8) x7 G tr
def fX5_bestK_b10 (N : Nat) (a1 : Int32) (a2 : Int32) (a3 : Int32) (a4 : Int32) (k10 : Int32 → Int32 → Int32 → zMem → Int64 → zR) (x5 : Int32) (x6 : Int32) (x7 : Int32) (G : zMem) (tr : Int64) : zR :=
  if (12 : Int32) ≤ x7 then some (x5, G, tr) else zbd (fX5_comesBy N a1 a2 a3 x7 a4 G tr) (fun r_3 G_4 tr_5 => if r_3 = (-9 : Int32) then fX5_bestK_b65 N a1 a2 a3 a4 k10 x5 x6 x7 G_4 tr_5 else if x5 = (-9 : Int32) then fX5_bestK_b54 N a1 a2 a3 a4 k10 x7 r_3 G_4 tr_5 else if x6 ≤ (x7 + r_3) then fX5_bestK_b65 N a1 a2 a3 a4 k10 x5 x6 x7 G_4 tr_5 else fX5_bestK_b54 N a1 a2 a3 a4 k10 x7 r_3 G_4 tr_5)
def fX5_bestK_L10 (N : Nat) (a1 : Int32) (a2 : Int32) (a3 : Int32) (a4 : Int32) : Nat → Int32 → Int32 → Int32 → zMem → Int64 → zR
  | 0, _, _, _, _, _ => none
  | n + 1, x5, x6, x7, G, tr => fX5_bestK_b10 N a1 a2 a3 a4 (fX5_bestK_L10 N a1 a2 a3 a4 n) x5 x6 x7 G tr
def fX5_bestK (N : Nat) (a1 : Int32) (a2 : Int32) (a3 : Int32) (a4 : Int32) (G : zMem) (tr : Int64) : zR :=
  fX5_bestK_L10 N a1 a2 a3 a4 N (-9 : Int32) (0 : Int32) (0 : Int32) G tr
def fX5_soonest (N : Nat) (a1 : Int32) (a2 : Int32) (a3 : Int32) (a4 : Int32) (G : zMem) (tr : Int64) : zR :=
  zbd (fX5_areTwo N a1 a2 (up2 G 0 0 (0 : Int32)) tr) (fun r_2 G_3 tr_4 => if r_2 = 0 then some ((-1 : Int32), G_3, tr_4) else zbp (fX5_in N a3 (1 : Int32) (5 : Int32)) (fun r_7 => if r_7 = 0 then some ((-1 : Int32), G_3, tr_4) else zbp (fX5_in N a4 (0 : Int32) (1 : Int32)) (fun r_10 => if r_10 = 0 then some ((-1 : Int32), G_3, tr_4) else zin (2 : Int32) 45 (zbd (fX5_bestK N a1 a2 a3 (G_3 6 (Int32.toNatClampNeg (2 : Int32))) G_3 tr_4) (fun r_14 G_15 tr_16 => if r_14 = (-9 : Int32) then some (r_14, G_15, tr_16) else if a4 = 0 then some (r_14, G_15, tr_16) else zin (2 : Int32) 45 (zbd (fX5_comesBy N a1 a2 a3 r_14 (G_15 6 (Int32.toNatClampNeg (2 : Int32))) G_15 tr_16) (fun r_21 G_22 tr_23 => some ((r_14 + r_21), G_22, tr_23))))))))
def fX5_lightest_b69 (N : Nat) (a1 : Int32) (a2 : Int32) (a3 : Int32) (k29 : Int32 → zMem → Int64 → zR) (x4 : Int32) (G : zMem) (tr : Int64) : zR :=
  k29 (x4 + 1) G tr
def fX5_lightest_b29 (N : Nat) (a1 : Int32) (a2 : Int32) (a3 : Int32) (k29 : Int32 → zMem → Int64 → zR) (x4 : Int32) (G : zMem) (tr : Int64) : zR :=
  if (6 : Int32) ≤ x4 then some ((-9 : Int32), G, tr) else zin (2 : Int32) 45 (zbd (fX5_comesBy N a1 a2 x4 (0 : Int32) (G 6 (Int32.toNatClampNeg (2 : Int32))) G tr) (fun r_4 G_5 tr_6 => if r_4 = (-9 : Int32) then fX5_lightest_b69 N a1 a2 a3 k29 x4 G_5 tr_6 else if a3 < r_4 then fX5_lightest_b69 N a1 a2 a3 k29 x4 G_5 tr_6 else some (x4, G_5, tr_6)))
def fX5_lightest_L29 (N : Nat) (a1 : Int32) (a2 : Int32) (a3 : Int32) : Nat → Int32 → zMem → Int64 → zR
  | 0, _, _, _ => none
  | n + 1, x4, G, tr => fX5_lightest_b29 N a1 a2 a3 (fX5_lightest_L29 N a1 a2 a3 n) x4 G tr
def fX5_lightest (N : Nat) (a1 : Int32) (a2 : Int32) (a3 : Int32) (G : zMem) (tr : Int64) : zR :=
  zbd (fX5_areTwo N a1 a2 (up2 G 0 0 (0 : Int32)) tr) (fun r_2 G_3 tr_4 => if r_2 = 0 then some ((-1 : Int32), G_3, tr_4) else zbp (fX5_in N a3 (1 : Int32) (60 : Int32)) (fun r_7 => if r_7 = 0 then some ((-1 : Int32), G_3, tr_4) else fX5_lightest_L29 N a1 a2 a3 N (1 : Int32) G_3 tr_4))
def fX5_words_b71 (N : Nat) (a1 : Int32) (k19 : Int32 → Int32 → zMem → Int64 → zR) (k32 : Int32 → Int32 → Int32 → zMem → Int64 → zR) (x3 : Int32) (x4 : Int32) (s0 : Int32) (s1 : Int32) (G : zMem) (tr : Int64) : zR :=
  k32 (s1 ||| s0) x3 (x4 + 1) G tr
def fX5_words_b79 (N : Nat) (a1 : Int32) (k19 : Int32 → Int32 → zMem → Int64 → zR) (x2 : Int32) (x3 : Int32) (G : zMem) (tr : Int64) : zR :=
  k19 x2 (x3 + 1) G tr
def fX5_words_b32 (N : Nat) (a1 : Int32) (k19 : Int32 → Int32 → zMem → Int64 → zR) (k32 : Int32 → Int32 → Int32 → zMem → Int64 → zR) (x2 : Int32) (x3 : Int32) (x4 : Int32) (G : zMem) (tr : Int64) : zR :=
  if (6 : Int32) ≤ x4 then fX5_words_b79 N a1 k19 x2 x3 G tr else if x3 = a1 then fX5_words_b79 N a1 k19 x2 x3 G tr else zin (2 : Int32) 45 (zbd (fX5_bestK N x3 a1 x4 (G 6 (Int32.toNatClampNeg (2 : Int32))) G tr) (fun r_5 G_6 tr_7 => if r_5 = (-9 : Int32) then fX5_words_b71 N a1 k19 k32 x3 x4 (0 : Int32) x2 G_6 tr_7 else fX5_words_b71 N a1 k19 k32 x3 x4 ((1 : Int32) <<< (x3 &&& 31)) x2 G_6 tr_7))
def fX5_words_L32 (N : Nat) (a1 : Int32) (k19 : Int32 → Int32 → zMem → Int64 → zR) : Nat → Int32 → Int32 → Int32 → zMem → Int64 → zR
  | 0, _, _, _, _, _ => none
  | n + 1, x2, x3, x4, G, tr => fX5_words_b32 N a1 k19 (fX5_words_L32 N a1 k19 n) x2 x3 x4 G tr
def fX5_words_b19 (N : Nat) (a1 : Int32) (k19 : Int32 → Int32 → zMem → Int64 → zR) (x2 : Int32) (x3 : Int32) (G : zMem) (tr : Int64) : zR :=
  zin (2 : Int32) 12 (if (G 2 (Int32.toNatClampNeg (2 : Int32))) ≤ x3 then some (x2, G, tr) else fX5_words_L32 N a1 k19 N x2 x3 (1 : Int32) G tr)
def fX5_words_L19 (N : Nat) (a1 : Int32) : Nat → Int32 → Int32 → zMem → Int64 → zR
  | 0, _, _, _, _ => none
  | n + 1, x2, x3, G, tr => fX5_words_b19 N a1 (fX5_words_L19 N a1 n) x2 x3 G tr
def fX5_words (N : Nat) (a1 : Int32) (G : zMem) (tr : Int64) : zR :=
  zbd (fX5_isIsle N a1 (up2 G 0 0 (0 : Int32)) tr) (fun r_2 G_3 tr_4 => if r_2 = 0 then some ((-1 : Int32), G_3, tr_4) else fX5_words_L19 N a1 N (0 : Int32) (0 : Int32) G_3 tr_4)
def fX5_nets_b123 (N : Nat) (a1 : Int32) (a2 : Int32) (a3 : Int32) (k32 : Int32 → Int32 → zMem → Int64 → zR) (x5 : Int32) (s0 : Int32) (G : zMem) (tr : Int64) : zR :=
  k32 s0 (x5 + 1) G tr
def fX5_nets_b121 (N : Nat) (a1 : Int32) (a2 : Int32) (a3 : Int32) (k32 : Int32 → Int32 → zMem → Int64 → zR) (x4 : Int32) (x5 : Int32) (G : zMem) (tr : Int64) : zR :=
  fX5_nets_b123 N a1 a2 a3 k32 x5 x4 G tr
def fX5_nets_b88 (N : Nat) (a1 : Int32) (a2 : Int32) (a3 : Int32) (k32 : Int32 → Int32 → zMem → Int64 → zR) (x4 : Int32) (x5 : Int32) (s0 : Int32) (G : zMem) (tr : Int64) : zR :=
  if s0 = 0 then fX5_nets_b121 N a1 a2 a3 k32 x4 x5 G tr else zin (2 : Int32) 45 (zbd (fX5_bestK N a1 a2 a3 ((G 6 (Int32.toNatClampNeg (2 : Int32))) ||| x5) G tr) (fun r_4 G_5 tr_6 => if r_4 = (-9 : Int32) then fX5_nets_b123 N a1 a2 a3 k32 x5 x5 G_5 tr_6 else fX5_nets_b121 N a1 a2 a3 k32 x4 x5 G_5 tr_6))
def fX5_nets_b83 (N : Nat) (a1 : Int32) (a2 : Int32) (a3 : Int32) (k32 : Int32 → Int32 → zMem → Int64 → zR) (x4 : Int32) (x5 : Int32) (G : zMem) (tr : Int64) : zR :=
  fX5_nets_b88 N a1 a2 a3 k32 x4 x5 (1 : Int32) G tr
def fX5_nets_b87 (N : Nat) (a1 : Int32) (a2 : Int32) (a3 : Int32) (k32 : Int32 → Int32 → zMem → Int64 → zR) (x4 : Int32) (x5 : Int32) (G : zMem) (tr : Int64) : zR :=
  fX5_nets_b88 N a1 a2 a3 k32 x4 x5 (0 : Int32) G tr
def fX5_nets_b32 (N : Nat) (a1 : Int32) (a2 : Int32) (a3 : Int32) (k32 : Int32 → Int32 → zMem → Int64 → zR) (x4 : Int32) (x5 : Int32) (G : zMem) (tr : Int64) : zR :=
  zin (2 : Int32) 12 (if ((1 : Int32) <<< ((G 2 (Int32.toNatClampNeg (2 : Int32))) &&& 31)) ≤ x5 then some (x4, G, tr) else if ((x5 >>> (a1 &&& 31)) &&& (1 : Int32)) = 0 then if ((x5 >>> (a2 &&& 31)) &&& (1 : Int32)) = 0 then if x4 = (-9 : Int32) then fX5_nets_b83 N a1 a2 a3 k32 x4 x5 G tr else zbp (fX5_ones N x5) (fun r_7 => zbp (fX5_ones N x4) (fun r_9 => if r_9 ≤ r_7 then fX5_nets_b87 N a1 a2 a3 k32 x4 x5 G tr else fX5_nets_b83 N a1 a2 a3 k32 x4 x5 G tr)) else fX5_nets_b87 N a1 a2 a3 k32 x4 x5 G tr else fX5_nets_b87 N a1 a2 a3 k32 x4 x5 G tr)
def fX5_nets_L32 (N : Nat) (a1 : Int32) (a2 : Int32) (a3 : Int32) : Nat → Int32 → Int32 → zMem → Int64 → zR
  | 0, _, _, _, _ => none
  | n + 1, x4, x5, G, tr => fX5_nets_b32 N a1 a2 a3 (fX5_nets_L32 N a1 a2 a3 n) x4 x5 G tr
def fX5_nets (N : Nat) (a1 : Int32) (a2 : Int32) (a3 : Int32) (G : zMem) (tr : Int64) : zR :=
  zbd (fX5_areTwo N a1 a2 (up2 G 0 0 (0 : Int32)) tr) (fun r_2 G_3 tr_4 => if r_2 = 0 then some ((-1 : Int32), G_3, tr_4) else zbp (fX5_in N a3 (1 : Int32) (5 : Int32)) (fun r_7 => if r_7 = 0 then some ((-1 : Int32), G_3, tr_4) else fX5_nets_L32 N a1 a2 a3 N (-9 : Int32) (0 : Int32) G_3 tr_4))
def fX5_who_b128 (N : Nat) (a1 : Int32) (a2 : Int32) (a3 : Int32) (k48 : Int32 → Int32 → zMem → Int64 → zR) (k62 : Int32 → Int32 → Int32 → zMem → Int64 → zR) (x5 : Int32) (x6 : Int32) (s0 : Int32) (s1 : Int32) (G : zMem) (tr : Int64) : zR :=
  k62 (s1 ||| s0) x5 (x6 + 1) G tr
def fX5_who_b111 (N : Nat) (a1 : Int32) (a2 : Int32) (a3 : Int32) (k48 : Int32 → Int32 → zMem → Int64 → zR) (k62 : Int32 → Int32 → Int32 → zMem → Int64 → zR) (x4 : Int32) (x5 : Int32) (x6 : Int32) (s0 : Int32) (G : zMem) (tr : Int64) : zR :=
  if s0 = 0 then fX5_who_b128 N a1 a2 a3 k48 k62 x5 x6 (0 : Int32) x4 G tr else fX5_who_b128 N a1 a2 a3 k48 k62 x5 x6 ((1 : Int32) <<< (x5 &&& 31)) x4 G tr
def fX5_who_b110 (N : Nat) (a1 : Int32) (a2 : Int32) (a3 : Int32) (k48 : Int32 → Int32 → zMem → Int64 → zR) (k62 : Int32 → Int32 → Int32 → zMem → Int64 → zR) (x4 : Int32) (x5 : Int32) (x6 : Int32) (G : zMem) (tr : Int64) : zR :=
  fX5_who_b111 N a1 a2 a3 k48 k62 x4 x5 x6 (0 : Int32) G tr
def fX5_who_b137 (N : Nat) (a1 : Int32) (a2 : Int32) (a3 : Int32) (k48 : Int32 → Int32 → zMem → Int64 → zR) (x4 : Int32) (x5 : Int32) (G : zMem) (tr : Int64) : zR :=
  k48 x4 (x5 + 1) G tr
def fX5_who_b62 (N : Nat) (a1 : Int32) (a2 : Int32) (a3 : Int32) (k48 : Int32 → Int32 → zMem → Int64 → zR) (k62 : Int32 → Int32 → Int32 → zMem → Int64 → zR) (x4 : Int32) (x5 : Int32) (x6 : Int32) (G : zMem) (tr : Int64) : zR :=
  if (12 : Int32) ≤ x6 then fX5_who_b137 N a1 a2 a3 k48 x4 x5 G tr else if x5 = a1 then fX5_who_b137 N a1 a2 a3 k48 x4 x5 G tr else zin (2 : Int32) 45 (zbd (fX5_comesBy N x5 a1 a2 x6 (G 6 (Int32.toNatClampNeg (2 : Int32))) G tr) (fun r_5 G_6 tr_7 => if r_5 = (-9 : Int32) then fX5_who_b110 N a1 a2 a3 k48 k62 x4 x5 x6 G_6 tr_7 else zin (4 : Int32) 6 (if (G_6 10 (Int32.toNatClampNeg (4 : Int32))) = a3 then fX5_who_b111 N a1 a2 a3 k48 k62 x4 x5 x6 (1 : Int32) G_6 tr_7 else fX5_who_b110 N a1 a2 a3 k48 k62 x4 x5 x6 G_6 tr_7)))
def fX5_who_L62 (N : Nat) (a1 : Int32) (a2 : Int32) (a3 : Int32) (k48 : Int32 → Int32 → zMem → Int64 → zR) : Nat → Int32 → Int32 → Int32 → zMem → Int64 → zR
  | 0, _, _, _, _, _ => none
  | n + 1, x4, x5, x6, G, tr => fX5_who_b62 N a1 a2 a3 k48 (fX5_who_L62 N a1 a2 a3 k48 n) x4 x5 x6 G tr
def fX5_who_b48 (N : Nat) (a1 : Int32) (a2 : Int32) (a3 : Int32) (k48 : Int32 → Int32 → zMem → Int64 → zR) (x4 : Int32) (x5 : Int32) (G : zMem) (tr : Int64) : zR :=
  zin (2 : Int32) 12 (if (G 2 (Int32.toNatClampNeg (2 : Int32))) ≤ x5 then some (x4, G, tr) else fX5_who_L62 N a1 a2 a3 k48 N x4 x5 (0 : Int32) G tr)
def fX5_who_L48 (N : Nat) (a1 : Int32) (a2 : Int32) (a3 : Int32) : Nat → Int32 → Int32 → zMem → Int64 → zR
  | 0, _, _, _, _ => none
  | n + 1, x4, x5, G, tr => fX5_who_b48 N a1 a2 a3 (fX5_who_L48 N a1 a2 a3 n) x4 x5 G tr
def fX5_who (N : Nat) (a1 : Int32) (a2 : Int32) (a3 : Int32) (G : zMem) (tr : Int64) : zR :=
  zbd (fX5_isIsle N a1 (up2 G 0 0 (0 : Int32)) tr) (fun r_2 G_3 tr_4 => if r_2 = 0 then some ((-1 : Int32), G_3, tr_4) else zbp (fX5_in N a2 (1 : Int32) (5 : Int32)) (fun r_7 => if r_7 = 0 then some ((-1 : Int32), G_3, tr_4) else zin (2 : Int32) 12 (zbp (fX5_in N a3 (0 : Int32) (((1 : Int32) <<< ((G_3 2 (Int32.toNatClampNeg (2 : Int32))) &&& 31)) - (1 : Int32))) (fun r_11 => if r_11 = 0 then some ((-1 : Int32), G_3, tr_4) else fX5_who_L48 N a1 a2 a3 N (0 : Int32) (0 : Int32) G_3 tr_4))))
def fX5_knee_b75 (N : Nat) (a1 : Int32) (a2 : Int32) (k32 : Int32 → Int32 → zMem → Int64 → zR) (x4 : Int32) (s0 : Int32) (s1 : Int32) (G : zMem) (tr : Int64) : zR :=
  k32 (s1 + s0) (x4 + 1) G tr
def fX5_knee_b32 (N : Nat) (a1 : Int32) (a2 : Int32) (k32 : Int32 → Int32 → zMem → Int64 → zR) (x3 : Int32) (x4 : Int32) (G : zMem) (tr : Int64) : zR :=
  if a2 ≤ x4 then some (x3, G, tr) else zin (0 : Int32) 45 (zbd (fX5_windOf N ((G 6 (Int32.toNatClampNeg (0 : Int32))) + x4) G tr) (fun r_4 G_5 tr_6 => zin (0 : Int32) 45 (zbd (fX5_windOf N (((G_5 6 (Int32.toNatClampNeg (0 : Int32))) + x4) - a1) G_5 tr_6) (fun r_9 G_10 tr_11 => if r_4 = r_9 then fX5_knee_b75 N a1 a2 k32 x4 (1 : Int32) x3 G_10 tr_11 else fX5_knee_b75 N a1 a2 k32 x4 (0 : Int32) x3 G_10 tr_11))))
def fX5_knee_L32 (N : Nat) (a1 : Int32) (a2 : Int32) : Nat → Int32 → Int32 → zMem → Int64 → zR
  | 0, _, _, _, _ => none
  | n + 1, x3, x4, G, tr => fX5_knee_b32 N a1 a2 (fX5_knee_L32 N a1 a2 n) x3 x4 G tr
def fX5_knee (N : Nat) (a1 : Int32) (a2 : Int32) (G : zMem) (tr : Int64) : zR :=
  zbp (fX5_in N a1 (1 : Int32) (12 : Int32)) (fun r_2 => if r_2 = 0 then some ((-1 : Int32), (up2 G 0 0 (0 : Int32)), tr) else zbp (fX5_in N a2 (1 : Int32) (12 : Int32)) (fun r_5 => if r_5 = 0 then some ((-1 : Int32), (up2 G 0 0 (0 : Int32)), tr) else fX5_knee_L32 N a1 a2 N (0 : Int32) (0 : Int32) (up2 G 0 0 (0 : Int32)) tr))
def fX5_drift_b117 (N : Nat) (a1 : Int32) (a2 : Int32) (k55 : Int32 → Int32 → Int32 → zMem → Int64 → zR) (x3 : Int32) (x5 : Int32) (s0 : Int32) (s1 : Int32) (G : zMem) (tr : Int64) : zR :=
  k55 x3 (s1 + s0) (x5 + 1) G tr
def fX5_drift_b108 (N : Nat) (a1 : Int32) (a2 : Int32) (k55 : Int32 → Int32 → Int32 → zMem → Int64 → zR) (x3 : Int32) (x5 : Int32) (s0 : Int32) (s1 : Int32) (s2 : Int32) (G : zMem) (tr : Int64) : zR :=
  if s1 = s0 then fX5_drift_b117 N a1 a2 k55 x3 x5 (-x3) s2 G tr else fX5_drift_b117 N a1 a2 k55 x3 x5 (0 : Int32) s2 G tr
def fX5_drift_b90 (N : Nat) (a1 : Int32) (a2 : Int32) (k55 : Int32 → Int32 → Int32 → zMem → Int64 → zR) (x3 : Int32) (x5 : Int32) (x6 : Int32) (s0 : Int32) (s1 : Int32) (s2 : Int32) (G : zMem) (tr : Int64) : zR :=
  if s1 = s0 then fX5_drift_b117 N a1 a2 k55 x3 x5 x3 s2 G tr else if a2 = 0 then fX5_drift_b108 N a1 a2 k55 x3 x5 (3 : Int32) x6 s2 G tr else fX5_drift_b108 N a1 a2 k55 x3 x5 (0 : Int32) x6 s2 G tr
def fX5_drift_b55 (N : Nat) (a1 : Int32) (a2 : Int32) (k55 : Int32 → Int32 → Int32 → zMem → Int64 → zR) (x3 : Int32) (x4 : Int32) (x5 : Int32) (G : zMem) (tr : Int64) : zR :=
  zin (4 : Int32) 12 (if (G 2 (Int32.toNatClampNeg (4 : Int32))) ≤ x5 then some (x4, G, tr) else zin ((3 : Int32) + x5) 45 (if a2 = 0 then fX5_drift_b90 N a1 a2 k55 x3 x5 (G 6 (Int32.toNatClampNeg ((3 : Int32) + x5))) (1 : Int32) (G 6 (Int32.toNatClampNeg ((3 : Int32) + x5))) x4 G tr else fX5_drift_b90 N a1 a2 k55 x3 x5 (G 6 (Int32.toNatClampNeg ((3 : Int32) + x5))) (2 : Int32) (G 6 (Int32.toNatClampNeg ((3 : Int32) + x5))) x4 G tr))
def fX5_drift_L55 (N : Nat) (a1 : Int32) (a2 : Int32) : Nat → Int32 → Int32 → Int32 → zMem → Int64 → zR
  | 0, _, _, _, _, _ => none
  | n + 1, x3, x4, x5, G, tr => fX5_drift_b55 N a1 a2 (fX5_drift_L55 N a1 a2 n) x3 x4 x5 G tr
def fX5_drift_b48 (N : Nat) (a1 : Int32) (a2 : Int32) (s0 : Int32) (G : zMem) (tr : Int64) : zR :=
  fX5_drift_L55 N a1 a2 N s0 (0 : Int32) (0 : Int32) G tr
def fX5_drift (N : Nat) (a1 : Int32) (a2 : Int32) (G : zMem) (tr : Int64) : zR :=
  zbp (fX5_in N a1 (1 : Int32) (5 : Int32)) (fun r_2 => if r_2 = 0 then some ((-1000000 : Int32), (up2 G 0 0 (0 : Int32)), tr) else zbp (fX5_in N a2 (0 : Int32) (1 : Int32)) (fun r_5 => if r_5 = 0 then some ((-1000000 : Int32), (up2 G 0 0 (0 : Int32)), tr) else zin (5 : Int32) 12 (if ((up2 G 0 0 (0 : Int32)) 2 (Int32.toNatClampNeg (5 : Int32))) ≤ a1 then fX5_drift_b48 N a1 a2 (0 : Int32) (up2 G 0 0 (0 : Int32)) tr else zin (5 : Int32) 12 (fX5_drift_b48 N a1 a2 (((up2 G 0 0 (0 : Int32)) 2 (Int32.toNatClampNeg (5 : Int32))) - a1) (up2 G 0 0 (0 : Int32)) tr))))
def fX5_power_b4 (N : Nat) (a0 : Int32) (a1 : Int32) (k4 : Int32 → Int32 → Option Int32) (x2 : Int32) (x3 : Int32) : Option Int32 :=
  if a1 ≤ x3 then some x2 else k4 (x2 * a0) (x3 + 1)
def fX5_power_L4 (N : Nat) (a0 : Int32) (a1 : Int32) : Nat → Int32 → Int32 → Option Int32
  | 0, _, _ => none
  | n + 1, x2, x3 => fX5_power_b4 N a0 a1 (fX5_power_L4 N a0 a1 n) x2 x3
def fX5_power (N : Nat) (a0 : Int32) (a1 : Int32) : Option Int32 :=
  fX5_power_L4 N a0 a1 N (1 : Int32) (0 : Int32)
def fX5_gcd_b4 (N : Nat) (a0 : Int32) (a1 : Int32) (k4 : Int32 → Int32 → Option Int32) (x2 : Int32) (x3 : Int32) : Option Int32 :=
  if x3 = 0 then some x2 else zdv x3 (k4 x3 (x2 - x2 / x3 * x3))
def fX5_gcd_L4 (N : Nat) (a0 : Int32) (a1 : Int32) : Nat → Int32 → Int32 → Option Int32
  | 0, _, _ => none
  | n + 1, x2, x3 => fX5_gcd_b4 N a0 a1 (fX5_gcd_L4 N a0 a1 n) x2 x3
def fX5_gcd (N : Nat) (a0 : Int32) (a1 : Int32) : Option Int32 :=
  fX5_gcd_L4 N a0 a1 N a0 a1
def fX5_odds_b144 (N : Nat) (a1 : Int32) (a2 : Int32) (a3 : Int32) (a4 : Int32) (k51 : Int32 → Int32 → zMem → Int64 → zR) (k74 : Int32 → Int32 → Int32 → Int32 → zMem → Int64 → zR) (x5 : Int32) (x6 : Int32) (x7 : Int32) (x8 : Int32) (s0 : Int32) (s1 : Int32) (G : zMem) (tr : Int64) : zR :=
  zin (2 : Int32) 45 (zbd (fX5_blows N 10 s1 s0 (G 6 (Int32.toNatClampNeg (2 : Int32))) G tr) (fun r_3 G_4 tr_5 => k74 x5 x6 x7 (x8 + 1) G_4 tr_5))
def fX5_odds_b113 (N : Nat) (a1 : Int32) (a2 : Int32) (a3 : Int32) (a4 : Int32) (k51 : Int32 → Int32 → zMem → Int64 → zR) (k74 : Int32 → Int32 → Int32 → Int32 → zMem → Int64 → zR) (x5 : Int32) (x6 : Int32) (x8 : Int32) (x9 : Int32) (s0 : Int32) (s1 : Int32) (G : zMem) (tr : Int64) : zR :=
  if x9 = 0 then zin (0 : Int32) 45 (zbd (fX5_windOf N ((G 6 (Int32.toNatClampNeg (0 : Int32))) + x8) G tr) (fun r_4 G_5 tr_6 => fX5_odds_b144 N a1 a2 a3 a4 k51 k74 x5 x6 (s1 * s0) x8 r_4 (0 : Int32) G_5 tr_6)) else fX5_odds_b144 N a1 a2 a3 a4 k51 k74 x5 x6 (s1 * s0) x8 (4 : Int32) (0 : Int32) G tr
def fX5_odds_b96 (N : Nat) (a1 : Int32) (a2 : Int32) (a3 : Int32) (a4 : Int32) (k51 : Int32 → Int32 → zMem → Int64 → zR) (k74 : Int32 → Int32 → Int32 → Int32 → zMem → Int64 → zR) (x5 : Int32) (x6 : Int32) (x7 : Int32) (x8 : Int32) (s0 : Int32) (G : zMem) (tr : Int64) : zR :=
  if s0 = 0 then fX5_odds_b113 N a1 a2 a3 a4 k51 k74 x5 x6 x8 s0 ((10 : Int32) - a2) x7 G tr else fX5_odds_b113 N a1 a2 a3 a4 k51 k74 x5 x6 x8 s0 a2 x7 G tr
def fX5_odds_b177 (N : Nat) (a1 : Int32) (a2 : Int32) (a3 : Int32) (a4 : Int32) (k51 : Int32 → Int32 → zMem → Int64 → zR) (x6 : Int32) (s0 : Int32) (s1 : Int32) (G : zMem) (tr : Int64) : zR :=
  k51 (s1 + s0) (x6 + 1) G tr
def fX5_odds_b74 (N : Nat) (a1 : Int32) (a2 : Int32) (a3 : Int32) (a4 : Int32) (k51 : Int32 → Int32 → zMem → Int64 → zR) (k74 : Int32 → Int32 → Int32 → Int32 → zMem → Int64 → zR) (x5 : Int32) (x6 : Int32) (x7 : Int32) (x8 : Int32) (G : zMem) (tr : Int64) : zR :=
  if a3 ≤ x8 then zin (5 : Int32) 6 (if (G 10 (Int32.toNatClampNeg (5 : Int32))) = (1 : Int32) then fX5_odds_b177 N a1 a2 a3 a4 k51 x6 x7 x5 G tr else fX5_odds_b177 N a1 a2 a3 a4 k51 x6 (0 : Int32) x5 G tr) else if ((x6 >>> (x8 &&& 31)) &&& (1 : Int32)) = (1 : Int32) then fX5_odds_b96 N a1 a2 a3 a4 k51 k74 x5 x6 x7 x8 (1 : Int32) G tr else fX5_odds_b96 N a1 a2 a3 a4 k51 k74 x5 x6 x7 x8 (0 : Int32) G tr
def fX5_odds_L74 (N : Nat) (a1 : Int32) (a2 : Int32) (a3 : Int32) (a4 : Int32) (k51 : Int32 → Int32 → zMem → Int64 → zR) : Nat → Int32 → Int32 → Int32 → Int32 → zMem → Int64 → zR
  | 0, _, _, _, _, _, _ => none
  | n + 1, x5, x6, x7, x8, G, tr => fX5_odds_b74 N a1 a2 a3 a4 k51 (fX5_odds_L74 N a1 a2 a3 a4 k51 n) x5 x6 x7 x8 G tr
def fX5_odds_b51 (N : Nat) (a1 : Int32) (a2 : Int32) (a3 : Int32) (a4 : Int32) (k51 : Int32 → Int32 → zMem → Int64 → zR) (x5 : Int32) (x6 : Int32) (G : zMem) (tr : Int64) : zR :=
  if ((1 : Int32) <<< (a3 &&& 31)) ≤ x6 then zbp (fX5_power N (10 : Int32) a3) (fun r_3 => zbp (fX5_gcd N x5 r_3) (fun r_5 => if a4 = 0 then zdv r_5 (some ((x5 / r_5), G, tr)) else zdv r_5 (some ((r_3 / r_5), G, tr)))) else zbd (fX5_takesLetter N 10 a1 G tr) (fun r_10 G_11 tr_12 => fX5_odds_L74 N a1 a2 a3 a4 k51 N x5 x6 (1 : Int32) (0 : Int32) G_11 tr_12)
def fX5_odds_L51 (N : Nat) (a1 : Int32) (a2 : Int32) (a3 : Int32) (a4 : Int32) : Nat → Int32 → Int32 → zMem → Int64 → zR
  | 0, _, _, _, _ => none
  | n + 1, x5, x6, G, tr => fX5_odds_b51 N a1 a2 a3 a4 (fX5_odds_L51 N a1 a2 a3 a4 n) x5 x6 G tr
def fX5_odds (N : Nat) (a1 : Int32) (a2 : Int32) (a3 : Int32) (a4 : Int32) (G : zMem) (tr : Int64) : zR :=
  zbd (fX5_isLetter N a1 (up2 G 0 0 (0 : Int32)) tr) (fun r_2 G_3 tr_4 => if r_2 = 0 then some ((-1 : Int32), G_3, tr_4) else zbp (fX5_in N a2 (0 : Int32) (10 : Int32)) (fun r_7 => if r_7 = 0 then some ((-1 : Int32), G_3, tr_4) else zbp (fX5_in N a3 (0 : Int32) (6 : Int32)) (fun r_10 => if r_10 = 0 then some ((-1 : Int32), G_3, tr_4) else zbp (fX5_in N a4 (0 : Int32) (1 : Int32)) (fun r_13 => if r_13 = 0 then some ((-1 : Int32), G_3, tr_4) else fX5_odds_L51 N a1 a2 a3 a4 N (0 : Int32) (0 : Int32) G_3 tr_4))))
def fX5_rate_b130 (N : Nat) (a1 : Int32) (a2 : Int32) (x4 : Int32) (x5 : Int32) (x6 : Int32) (s0 : Int64) (s1 : Int64) (G : zMem) (tr : Int64) : zR :=
  if a1 = 0 then some (x4, G, (s1 + s0)) else if a1 = (1 : Int32) then some (x5, G, (s1 + s0)) else if a1 = (2 : Int32) then some (x6, G, (s1 + s0)) else if a1 = (3 : Int32) then some (((2 : Int32) * x5), G, (s1 + s0)) else if a1 = (4 : Int32) then some ((x6 + a2), G, (s1 + s0)) else zin (0 : Int32) 45 (some ((x4 + (G 6 (Int32.toNatClampNeg (0 : Int32)))), G, (s1 + s0)))
def fX5_rate (N : Nat) (a1 : Int32) (a2 : Int32) (G : zMem) (tr : Int64) : zR :=
  zbp (fX5_in N a1 (0 : Int32) (5 : Int32)) (fun r_2 => if r_2 = 0 then some ((-1000000 : Int32), (up2 G 0 0 (0 : Int32)), tr) else zbd (fX5_isLetter N a2 (up2 G 0 0 (0 : Int32)) tr) (fun r_5 G_6 tr_7 => if r_5 = 0 then some ((-1000000 : Int32), G_6, tr_7) else zin ((15 : Int32) + ((6 : Int32) * a2)) 45 (zin (((15 : Int32) + ((6 : Int32) * a2)) + (4 : Int32)) 45 (zbp (fX5_ones N (G_6 6 (Int32.toNatClampNeg (((15 : Int32) + ((6 : Int32) * a2)) + (4 : Int32))))) (fun r_12 => zin (((15 : Int32) + ((6 : Int32) * a2)) + (3 : Int32)) 45 (if a1 = 0 then fX5_rate_b130 N a1 a2 (G_6 6 (Int32.toNatClampNeg ((15 : Int32) + ((6 : Int32) * a2)))) ((G_6 6 (Int32.toNatClampNeg ((15 : Int32) + ((6 : Int32) * a2)))) + r_12) ((G_6 6 (Int32.toNatClampNeg ((15 : Int32) + ((6 : Int32) * a2)))) - (G_6 6 (Int32.toNatClampNeg (((15 : Int32) + ((6 : Int32) * a2)) + (3 : Int32))))) (1 : Int64) tr_7 G_6 tr_7 else if a1 = (1 : Int32) then fX5_rate_b130 N a1 a2 (G_6 6 (Int32.toNatClampNeg ((15 : Int32) + ((6 : Int32) * a2)))) ((G_6 6 (Int32.toNatClampNeg ((15 : Int32) + ((6 : Int32) * a2)))) + r_12) ((G_6 6 (Int32.toNatClampNeg ((15 : Int32) + ((6 : Int32) * a2)))) - (G_6 6 (Int32.toNatClampNeg (((15 : Int32) + ((6 : Int32) * a2)) + (3 : Int32))))) (11 : Int64) tr_7 G_6 tr_7 else if a1 = (2 : Int32) then fX5_rate_b130 N a1 a2 (G_6 6 (Int32.toNatClampNeg ((15 : Int32) + ((6 : Int32) * a2)))) ((G_6 6 (Int32.toNatClampNeg ((15 : Int32) + ((6 : Int32) * a2)))) + r_12) ((G_6 6 (Int32.toNatClampNeg ((15 : Int32) + ((6 : Int32) * a2)))) - (G_6 6 (Int32.toNatClampNeg (((15 : Int32) + ((6 : Int32) * a2)) + (3 : Int32))))) (101 : Int64) tr_7 G_6 tr_7 else if a1 = (3 : Int32) then fX5_rate_b130 N a1 a2 (G_6 6 (Int32.toNatClampNeg ((15 : Int32) + ((6 : Int32) * a2)))) ((G_6 6 (Int32.toNatClampNeg ((15 : Int32) + ((6 : Int32) * a2)))) + r_12) ((G_6 6 (Int32.toNatClampNeg ((15 : Int32) + ((6 : Int32) * a2)))) - (G_6 6 (Int32.toNatClampNeg (((15 : Int32) + ((6 : Int32) * a2)) + (3 : Int32))))) (1011 : Int64) tr_7 G_6 tr_7 else if a1 = (4 : Int32) then fX5_rate_b130 N a1 a2 (G_6 6 (Int32.toNatClampNeg ((15 : Int32) + ((6 : Int32) * a2)))) ((G_6 6 (Int32.toNatClampNeg ((15 : Int32) + ((6 : Int32) * a2)))) + r_12) ((G_6 6 (Int32.toNatClampNeg ((15 : Int32) + ((6 : Int32) * a2)))) - (G_6 6 (Int32.toNatClampNeg (((15 : Int32) + ((6 : Int32) * a2)) + (3 : Int32))))) (10101 : Int64) tr_7 G_6 tr_7 else fX5_rate_b130 N a1 a2 (G_6 6 (Int32.toNatClampNeg ((15 : Int32) + ((6 : Int32) * a2)))) ((G_6 6 (Int32.toNatClampNeg ((15 : Int32) + ((6 : Int32) * a2)))) + r_12) ((G_6 6 (Int32.toNatClampNeg ((15 : Int32) + ((6 : Int32) * a2)))) - (G_6 6 (Int32.toNatClampNeg (((15 : Int32) + ((6 : Int32) * a2)) + (3 : Int32))))) (100001 : Int64) tr_7 G_6 tr_7))))))
def fX5_keep_b18 (N : Nat) (a1 : Int32) (k18 : Int32 → zMem → Int64 → zR) (x2 : Int32) (G : zMem) (tr : Int64) : zR :=
  if (45 : Int32) ≤ x2 then zin a1 2 (zbo (1 : Int32) (zin (0 : Int32) 45 (some (((up2 G 8 (Int32.toNatClampNeg a1) (1 : Int32)) 6 (Int32.toNatClampNeg (0 : Int32))), (up2 G 8 (Int32.toNatClampNeg a1) (1 : Int32)), tr)))) else zin x2 45 (zin (((45 : Int32) * a1) + x2) 90 (k18 (x2 + 1) (up2 G 7 (Int32.toNatClampNeg (((45 : Int32) * a1) + x2)) (G 6 (Int32.toNatClampNeg x2))) tr))
def fX5_keep_L18 (N : Nat) (a1 : Int32) : Nat → Int32 → zMem → Int64 → zR
  | 0, _, _, _ => none
  | n + 1, x2, G, tr => fX5_keep_b18 N a1 (fX5_keep_L18 N a1 n) x2 G tr
def fX5_keep (N : Nat) (a1 : Int32) (G : zMem) (tr : Int64) : zR :=
  zbp (fX5_in N a1 (0 : Int32) (1 : Int32)) (fun r_2 => if r_2 = 0 then some ((-1 : Int32), (up2 G 0 0 (0 : Int32)), tr) else fX5_keep_L18 N a1 N (0 : Int32) (up2 G 0 0 (0 : Int32)) tr)
def fX5_back_b30 (N : Nat) (a1 : Int32) (k30 : Int32 → zMem → Int64 → zR) (x2 : Int32) (G : zMem) (tr : Int64) : zR :=
  if (45 : Int32) ≤ x2 then zin (0 : Int32) 45 (some (((up2 G 0 18 (0 : Int32)) 6 (Int32.toNatClampNeg (0 : Int32))), (up2 G 0 18 (0 : Int32)), tr)) else zin (((45 : Int32) * a1) + x2) 90 (zin x2 45 (k30 (x2 + 1) (up2 G 6 (Int32.toNatClampNeg x2) (G 7 (Int32.toNatClampNeg (((45 : Int32) * a1) + x2)))) tr))
def fX5_back_L30 (N : Nat) (a1 : Int32) : Nat → Int32 → zMem → Int64 → zR
  | 0, _, _, _ => none
  | n + 1, x2, G, tr => fX5_back_b30 N a1 (fX5_back_L30 N a1 n) x2 G tr
def fX5_back (N : Nat) (a1 : Int32) (G : zMem) (tr : Int64) : zR :=
  zbp (fX5_in N a1 (0 : Int32) (1 : Int32)) (fun r_2 => if r_2 = 0 then some ((-1 : Int32), (up2 G 0 0 (0 : Int32)), tr) else zin a1 2 (if ((up2 G 0 0 (0 : Int32)) 8 (Int32.toNatClampNeg a1)) = 0 then some ((-2 : Int32), (up2 G 0 0 (0 : Int32)), tr) else fX5_back_L30 N a1 N (0 : Int32) (up2 G 0 0 (0 : Int32)) tr))
def fX5_count (N : Nat) (a1 : Int32) (G : zMem) (tr : Int64) : zR :=
  zbp (fX5_in N a1 (0 : Int32) (5 : Int32)) (fun r_2 => if r_2 = 0 then if a1 = (6 : Int32) then some (((up2 G 0 0 (0 : Int32)) 0 3), (up2 G 0 0 (0 : Int32)), tr) else some ((-1 : Int32), (up2 G 0 0 (0 : Int32)), tr) else zin a1 12 (some (((up2 G 0 0 (0 : Int32)) 2 (Int32.toNatClampNeg a1)), (up2 G 0 0 (0 : Int32)), tr)))
def fX5_trace (N : Nat) (G : zMem) (tr : Int64) : Option (Int64 × zMem × Int64) :=
  some (tr, (up2 G 0 0 (0 : Int32)), tr)
