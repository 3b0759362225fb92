def f_J_signum (a0 : Int64) : Option (Int32) :=
    (some (((jshr a0 (63 : Int32)) ||| (jushr (-a0) (63 : Int32))).toInt32))
def f_J_nlzi_61 (x0 : Int32) (x1 : Int32) : Option (Int32) :=
    (if x0 < (4 : Int32) then (some (x1 - (jiushr x0 (1 : Int32))))
    else (some ((x1 + (-2 : Int32)) - (jiushr (jiushr x0 (2 : Int32)) (1 : Int32)))))
def f_J_nlzi_48 (x0 : Int32) (x1 : Int32) : Option (Int32) :=
    (if x0 < (16 : Int32) then (f_J_nlzi_61 x0 x1)
    else (f_J_nlzi_61 (jiushr x0 (4 : Int32)) (x1 + (-4 : Int32))))
def f_J_nlzi_33 (x0 : Int32) (x1 : Int32) : Option (Int32) :=
    (if x0 < (256 : Int32) then (f_J_nlzi_48 x0 x1)
    else (f_J_nlzi_48 (jiushr x0 (8 : Int32)) (x1 + (-8 : Int32))))
def f_J_nlzi (a0 : Int32) : Option (Int32) :=
    (if 0 < a0 then (if a0 < (65536 : Int32) then (f_J_nlzi_33 a0 (31 : Int32))
    else (f_J_nlzi_33 (jiushr a0 (16 : Int32)) ((31 : Int32) + (-16 : Int32))))
    else (if a0 = 0 then (some (32 : Int32))
    else (some (0 : Int32))))
def f_J_nlz (a0 : Int64) : Option (Int32) :=
    (if (jushr a0 (32 : Int32)).toInt32 = 0 then (Option.bind (f_J_nlzi a0.toInt32) (fun q_14 =>
    (some ((32 : Int32) + q_14))))
    else (Option.bind (f_J_nlzi ((jushr a0 (32 : Int32)).toInt32)) (fun q_22 =>
    (some q_22))))
def f_J_ntzi_62 (x0 : Int32) (x1 : Int32) : Option (Int32) :=
    (if x0 ≤ (4 : Int32) then (some (x1 + (jiushr x0 (1 : Int32))))
    else (some ((x1 + (2 : Int32)) + (jiushr (jiushr x0 (2 : Int32)) (1 : Int32)))))
def f_J_ntzi_49 (x0 : Int32) (x1 : Int32) : Option (Int32) :=
    (if x0 ≤ (16 : Int32) then (f_J_ntzi_62 x0 x1)
    else (f_J_ntzi_62 (jiushr x0 (4 : Int32)) (x1 + (4 : Int32))))
def f_J_ntzi_34 (x0 : Int32) (x1 : Int32) : Option (Int32) :=
    (if x0 ≤ (256 : Int32) then (f_J_ntzi_49 x0 x1)
    else (f_J_ntzi_49 (jiushr x0 (8 : Int32)) (x1 + (8 : Int32))))
def f_J_ntzi (a0 : Int32) : Option (Int32) :=
    (if 0 < ((a0 ^^^ (-1 : Int32)) &&& (a0 - (1 : Int32))) then (if ((a0 ^^^ (-1 : Int32)) &&& (a0 - (1 : Int32))) ≤ (65536 : Int32) then (f_J_ntzi_34 ((a0 ^^^ (-1 : Int32)) &&& (a0 - (1 : Int32))) (1 : Int32))
    else (f_J_ntzi_34 (jiushr ((a0 ^^^ (-1 : Int32)) &&& (a0 - (1 : Int32))) (16 : Int32)) ((1 : Int32) + (16 : Int32))))
    else (some (((a0 ^^^ (-1 : Int32)) &&& (a0 - (1 : Int32))) &&& (32 : Int32))))
def f_J_ntz (a0 : Int64) : Option (Int32) :=
    (if a0.toInt32 = 0 then (Option.bind (f_J_ntzi ((jushr a0 (32 : Int32)).toInt32)) (fun q_14 =>
    (some ((32 : Int32) + q_14))))
    else (Option.bind (f_J_ntzi a0.toInt32) (fun q_22 =>
    (some q_22))))
def f_J_bitCount_55 (x0 : Int64) : Option (Int32) :=
    (some (x0.toInt32 &&& (127 : Int32)))
def f_J_bitCount_48 (x0 : Int64) : Option (Int32) :=
    (f_J_bitCount_55 (x0 + (jushr x0 (32 : Int32))))
def f_J_bitCount_41 (x0 : Int64) : Option (Int32) :=
    (f_J_bitCount_48 (x0 + (jushr x0 (16 : Int32))))
def f_J_bitCount_34 (x0 : Int64) : Option (Int32) :=
    (f_J_bitCount_41 (x0 + (jushr x0 (8 : Int32))))
def f_J_bitCount_24 (x0 : Int64) : Option (Int32) :=
    (f_J_bitCount_34 ((x0 + (jushr x0 (4 : Int32))) &&& (1085102592571150095 : Int64)))
def f_J_bitCount_10 (x0 : Int64) : Option (Int32) :=
    (f_J_bitCount_24 ((x0 &&& (3689348814741910323 : Int64)) + ((jushr x0 (2 : Int32)) &&& (3689348814741910323 : Int64))))
def f_J_bitCount (a0 : Int64) : Option (Int32) :=
    (f_J_bitCount_10 (a0 - ((jushr a0 (1 : Int32)) &&& (6148914691236517205 : Int64))))
def f_J_compare (a0 : Int64) (a1 : Int64) : Option (Int32) :=
    (if 0 ≤ (lg_cmp a0 a1) then (if (lg_cmp a0 a1) = 0 then (some (0 : Int32))
    else (some (1 : Int32)))
    else (some (-1 : Int32)))
def f_J_compareUnsigned (a0 : Int64) (a1 : Int64) : Option (Int32) :=
    (Option.bind (f_J_compare (a0 + (-9223372036854775808 : Int64)) (a1 + (-9223372036854775808 : Int64))) (fun q_10 =>
    (some q_10)))
def f_E_hold (T_sg : Int32) (T_hi : Int64) (T_lo : Int64) (T_pl : Int32) (T_mo : Int32) (a1 : Int64) (a2 : Int32) : Option (Int32 × Int64 × Int64 × Int32 × Int32) :=
    (Option.bind (f_J_signum a1) (fun q_2 =>
    (some (q_2, (0 : Int64), (jabs a1), a2, (0 : Int32)))))
def f_E_holdProduct (T_sg : Int32) (T_hi : Int64) (T_lo : Int64) (T_pl : Int32) (T_mo : Int32) (a1 : Int64) (a2 : Int64) (a3 : Int32) : Option (Int32 × Int64 × Int64 × Int32 × Int32) :=
    (Option.bind (f_J_signum a1) (fun q_66 =>
    (Option.bind (f_J_signum a2) (fun q_70 =>
    (some ((q_66 * q_70), (((jushr (jabs a1) (32 : Int32)) * (jushr (jabs a2) (32 : Int32))) + (jushr ((((jushr (jabs a1) (32 : Int32)) * ((jabs a2) &&& (4294967295 : Int64))) + (((jabs a1) &&& (4294967295 : Int64)) * (jushr (jabs a2) (32 : Int32)))) + (jushr (((jabs a1) &&& (4294967295 : Int64)) * ((jabs a2) &&& (4294967295 : Int64))) (32 : Int32))) (32 : Int32))), ((jabs a1) * (jabs a2)), a3, (0 : Int32)))))))
def f_E_holdQuotient_35 : Nat → (Int64) → (Int64) → (Int32) → (Int64) → (Int64) → (Int64) → (Int32) → (Int32) → (Int64) → (Int64) → (Int32) → (Int32) → Option (Int32 × Int64 × Int64 × Int32 × Int32)
  | 0, _, _, _, _, _, _, _, _, _, _, _, _ => none
  | n_ + 1, x1, x3, x5, x6, x8, x10, x12, T_sg, T_hi, T_lo, T_pl, T_mo =>
    (if (6 : Int32) ≤ x12 then (Option.bind (f_J_signum x1) (fun q_77 =>
    (Option.bind (f_J_signum x3) (fun q_81 =>
    (if (lg_cmp x10 (0 : Int64)) = 0 then (some ((q_77 * q_81), (0 : Int64), x8, (x5 - (60 : Int32)), (0 : Int32)))
    else (some ((q_77 * q_81), (0 : Int64), x8, (x5 - (60 : Int32)), (1 : Int32))))))))
    else (if x6 = 0 then none else (if x6 = 0 then none else ((f_E_holdQuotient_35 n_) x1 x3 x5 x6 ((jshl x8 (10 : Int32)) ||| ((jshl x10 (10 : Int32)) / x6)) ((jshl x10 (10 : Int32)) - (jshl x10 (10 : Int32)) / x6 * x6) (x12 + (1 : Int32)) T_sg T_hi T_lo T_pl T_mo))))
def f_E_holdQuotient (T_sg : Int32) (T_hi : Int64) (T_lo : Int64) (T_pl : Int32) (T_mo : Int32) (a1 : Int64) (a2 : Int64) (a3 : Int32) : Option (Int32 × Int64 × Int64 × Int32 × Int32) :=
    (if (lg_cmp (jabs a2) (0 : Int64)) = 0 then (some (T_sg, T_hi, T_lo, T_pl, T_mo))
    else (if (jabs a2) = 0 then none else (if (jabs a2) = 0 then none else (f_E_holdQuotient_35 1000 a1 a2 a3 (jabs a2) ((jabs a1) / (jabs a2)) ((jabs a1) - (jabs a1) / (jabs a2) * (jabs a2)) (0 : Int32) T_sg T_hi T_lo T_pl T_mo))))
def f_E_holdRoot_44 (k_17 : (Int64) → (Int32) → (Int64) → (Int64) → (Int64) → (Int32) → (Int32) → (Int64) → (Int64) → (Int32) → (Int32) → Option (Int32 × Int64 × Int64 × Int32 × Int32)) (x1 : Int64) (x3 : Int32) (x4 : Int64) (x6 : Int64) (x8 : Int64) (x10 : Int32) (y0 : Int64) (T_sg : Int32) (T_hi : Int64) (T_lo : Int64) (T_pl : Int32) (T_mo : Int32) : Option (Int32 × Int64 × Int64 × Int32 × Int32) :=
    (if (lg_cmp ((jshl x8 (2 : Int32)) ||| y0) ((jshl x6 (2 : Int32)) ||| (1 : Int64))) < 0 then (k_17 x1 x3 x4 (jshl x6 (1 : Int32)) ((jshl x8 (2 : Int32)) ||| y0) (x10 + (-1 : Int32)) T_sg T_hi T_lo T_pl T_mo)
    else (k_17 x1 x3 x4 ((jshl x6 (1 : Int32)) ||| (1 : Int64)) (((jshl x8 (2 : Int32)) ||| y0) - ((jshl x6 (2 : Int32)) ||| (1 : Int64))) (x10 + (-1 : Int32)) T_sg T_hi T_lo T_pl T_mo))
def f_E_holdRoot_17 : Nat → (Int64) → (Int32) → (Int64) → (Int64) → (Int64) → (Int32) → (Int32) → (Int64) → (Int64) → (Int32) → (Int32) → Option (Int32 × Int64 × Int64 × Int32 × Int32)
  | 0, _, _, _, _, _, _, _, _, _, _, _ => none
  | n_ + 1, x1, x3, x4, x6, x8, x10, T_sg, T_hi, T_lo, T_pl, T_mo =>
    (if x10 < (-29 : Int32) then (Option.bind (f_J_signum x1) (fun q_98 =>
    (if (lg_cmp x8 (0 : Int64)) = 0 then (some (q_98, (0 : Int64), x6, (((x3 - (x3 &&& (1 : Int32))) / (2 : Int32)) - (29 : Int32)), (0 : Int32)))
    else (some (q_98, (0 : Int64), x6, (((x3 - (x3 &&& (1 : Int32))) / (2 : Int32)) - (29 : Int32)), (1 : Int32))))))
    else (if x10 < 0 then (f_E_holdRoot_44 (f_E_holdRoot_17 n_) x1 x3 x4 x6 x8 x10 (0 : Int64) T_sg T_hi T_lo T_pl T_mo)
    else (f_E_holdRoot_44 (f_E_holdRoot_17 n_) x1 x3 x4 x6 x8 x10 ((jshr x4 ((2 : Int32) * x10)) &&& (3 : Int64)) T_sg T_hi T_lo T_pl T_mo)))
def f_E_holdRoot (T_sg : Int32) (T_hi : Int64) (T_lo : Int64) (T_pl : Int32) (T_mo : Int32) (a1 : Int64) (a2 : Int32) : Option (Int32 × Int64 × Int64 × Int32 × Int32) :=
    (f_E_holdRoot_17 1000 a1 a2 (jshl a1 (a2 &&& (1 : Int32))) (0 : Int64) (0 : Int64) (26 : Int32) T_sg T_hi T_lo T_pl T_mo)
def f_E_length (T_hi : Int64) (T_lo : Int64) : Option (Int32) :=
    (if (lg_cmp T_hi (0 : Int64)) = 0 then (Option.bind (f_J_nlz T_lo) (fun q_29 =>
    (some ((64 : Int32) - q_29))))
    else (Option.bind (f_J_nlz T_hi) (fun q_16 =>
    (some ((128 : Int32) - q_16)))))
def f_E_shiftUp (T_hi : Int64) (T_lo : Int64) (T_pl : Int32) (a1 : Int32) : Option (Int64 × Int64 × Int32) :=
    (if a1 < (64 : Int32) then (if a1 ≤ 0 then (some (T_hi, T_lo, (T_pl - a1)))
    else (some (((jshl T_hi a1) ||| (jushr T_lo ((64 : Int32) - a1))), (jshl T_lo a1), (T_pl - a1))))
    else (some ((jshl T_lo (a1 - (64 : Int32))), (0 : Int64), (T_pl - a1))))
def f_E_shiftDown_191 (x1 : Int32) (y0 : Int32) (y1 : Int32) (T_hi : Int64) (T_lo : Int64) (T_pl : Int32) (T_mo : Int32) : Option (Int64 × Int64 × Int32 × Int32) :=
    (if (y1 ||| y0) = 0 ∨ (y1 ||| y0) = 1 then (some ((jushr T_hi x1), ((jushr T_lo x1) ||| (jshl T_hi ((64 : Int32) - x1))), (T_pl + x1), (y1 ||| y0))) else none)
def f_E_shiftDown_147 (x1 : Int32) (y0 : Int32) (y1 : Int32) (T_hi : Int64) (T_lo : Int64) (T_pl : Int32) (T_mo : Int32) : Option (Int64 × Int64 × Int32 × Int32) :=
    (if (y1 ||| y0) = 0 ∨ (y1 ||| y0) = 1 then (some ((0 : Int64), T_hi, (T_pl + x1), (y1 ||| y0))) else none)
def f_E_shiftDown_97 (x1 : Int32) (y0 : Int32) (y1 : Int32) (T_hi : Int64) (T_lo : Int64) (T_pl : Int32) (T_mo : Int32) : Option (Int64 × Int64 × Int32 × Int32) :=
    (if (y1 ||| y0) = 0 ∨ (y1 ||| y0) = 1 then (some ((0 : Int64), (jushr T_hi (x1 - (64 : Int32))), (T_pl + x1), (y1 ||| y0))) else none)
def f_E_shiftDown_40 (x1 : Int32) (y0 : Int32) (y1 : Int32) (T_hi : Int64) (T_lo : Int64) (T_pl : Int32) (T_mo : Int32) : Option (Int64 × Int64 × Int32 × Int32) :=
    (if (y1 ||| y0) = 0 ∨ (y1 ||| y0) = 1 then (some ((0 : Int64), (0 : Int64), (T_pl + x1), (y1 ||| y0))) else none)
def f_E_shiftDown (T_hi : Int64) (T_lo : Int64) (T_pl : Int32) (T_mo : Int32) (a1 : Int32) : Option (Int64 × Int64 × Int32 × Int32) :=
    (if 0 < a1 then (if a1 < (128 : Int32) then (if a1 ≤ (64 : Int32) then (if a1 = (64 : Int32) then (if (lg_cmp T_lo (0 : Int64)) = 0 then (f_E_shiftDown_147 a1 (0 : Int32) T_mo T_hi T_lo T_pl T_mo)
    else (f_E_shiftDown_147 a1 (1 : Int32) T_mo T_hi T_lo T_pl T_mo))
    else (if (lg_cmp (jshl T_lo ((64 : Int32) - a1)) (0 : Int64)) = 0 then (f_E_shiftDown_191 a1 (0 : Int32) T_mo T_hi T_lo T_pl T_mo)
    else (f_E_shiftDown_191 a1 (1 : Int32) T_mo T_hi T_lo T_pl T_mo)))
    else (if (lg_cmp T_lo (0 : Int64)) = 0 then (if (lg_cmp (jshl T_hi ((128 : Int32) - a1)) (0 : Int64)) = 0 then (f_E_shiftDown_97 a1 (0 : Int32) T_mo T_hi T_lo T_pl T_mo)
    else (f_E_shiftDown_97 a1 (1 : Int32) T_mo T_hi T_lo T_pl T_mo))
    else (f_E_shiftDown_97 a1 (1 : Int32) T_mo T_hi T_lo T_pl T_mo)))
    else (if (lg_cmp T_hi (0 : Int64)) = 0 then (if (lg_cmp T_lo (0 : Int64)) = 0 then (f_E_shiftDown_40 a1 (0 : Int32) T_mo T_hi T_lo T_pl T_mo)
    else (f_E_shiftDown_40 a1 (1 : Int32) T_mo T_hi T_lo T_pl T_mo))
    else (f_E_shiftDown_40 a1 (1 : Int32) T_mo T_hi T_lo T_pl T_mo)))
    else (some (T_hi, T_lo, T_pl, T_mo)))
def f_E_lift (T_hi : Int64) (T_lo : Int64) (T_pl : Int32) (T_mo : Int32) : Option (Int64 × Int64 × Int32 × Int32) :=
    (Option.bind (f_E_length T_hi T_lo) (fun q_3 =>
    (if 0 ≤ ((126 : Int32) - q_3) then (Option.bind (f_E_shiftUp T_hi T_lo T_pl ((126 : Int32) - q_3)) (fun q_23 =>
    (some (q_23.1, q_23.2.1, q_23.2.2, T_mo))))
    else (Option.bind (f_E_shiftDown T_hi T_lo T_pl T_mo (-((126 : Int32) - q_3))) (fun q_15 =>
    (some (q_15.1, q_15.2.1, q_15.2.2.1, q_15.2.2.2)))))))
def f_E_roundTo_122 (x7 : Int32) (y0 : Int32) (T_sg : Int32) (T_hi : Int64) (T_lo : Int64) (T_pl : Int32) (T_mo : Int32) : Option (Int32 × Int64 × Int64 × Int32 × Int32) :=
    (if y0 = 0 then (if x7 = 0 then (some ((-T_sg), T_hi, T_lo, T_pl, (0 : Int32)))
    else (some ((0 : Int32), T_hi, T_lo, T_pl, (0 : Int32))))
    else (some (T_sg, T_hi, (T_lo + (1 : Int64)), T_pl, (0 : Int32))))
def f_E_roundTo_63 (x2 : Int32) (x3 : Int64) (x5 : Int64) (y0 : Int32) (T_sg : Int32) (T_hi : Int64) (T_lo : Int64) (T_pl : Int32) (T_mo : Int32) : Option (Int32 × Int64 × Int64 × Int32 × Int32) :=
    (if 0 < (lg_cmp x5 x3) then (f_E_roundTo_122 y0 (1 : Int32) T_sg T_hi (jushr T_lo x2) (T_pl + x2) T_mo)
    else (if (lg_cmp x5 x3) = 0 then (if T_mo = 0 then (if (lg_cmp ((jushr T_lo x2) &&& (1 : Int64)) (1 : Int64)) = 0 then (f_E_roundTo_122 y0 (1 : Int32) T_sg T_hi (jushr T_lo x2) (T_pl + x2) T_mo)
    else (f_E_roundTo_122 y0 (0 : Int32) T_sg T_hi (jushr T_lo x2) (T_pl + x2) T_mo))
    else (f_E_roundTo_122 y0 (1 : Int32) T_sg T_hi (jushr T_lo x2) (T_pl + x2) T_mo))
    else (f_E_roundTo_122 y0 (0 : Int32) T_sg T_hi (jushr T_lo x2) (T_pl + x2) T_mo)))
def f_E_roundTo (T_sg : Int32) (T_hi : Int64) (T_lo : Int64) (T_pl : Int32) (T_mo : Int32) (a1 : Int32) : Option (Int32 × Int64 × Int64 × Int32 × Int32) :=
    (Option.bind (f_E_length T_hi T_lo) (fun q_2 =>
    (Option.bind (f_E_shiftDown T_hi T_lo T_pl T_mo (q_2 - (62 : Int32))) (fun q_8 =>
    (Option.bind (f_E_length q_8.1 q_8.2.1) (fun q_12 =>
    (if 0 < (q_12 - a1) then (if (lg_cmp (q_8.2.1 &&& (((2 : Int64) * (jshl (1 : Int64) ((q_12 - a1) - (1 : Int32)))) - (1 : Int64))) (0 : Int64)) = 0 then (if q_8.2.2.2 = 0 then (f_E_roundTo_63 (q_12 - a1) (jshl (1 : Int64) ((q_12 - a1) - (1 : Int32))) (q_8.2.1 &&& (((2 : Int64) * (jshl (1 : Int64) ((q_12 - a1) - (1 : Int32)))) - (1 : Int64))) (1 : Int32) T_sg q_8.1 q_8.2.1 q_8.2.2.1 q_8.2.2.2)
    else (f_E_roundTo_63 (q_12 - a1) (jshl (1 : Int64) ((q_12 - a1) - (1 : Int32))) (q_8.2.1 &&& (((2 : Int64) * (jshl (1 : Int64) ((q_12 - a1) - (1 : Int32)))) - (1 : Int64))) (0 : Int32) T_sg q_8.1 q_8.2.1 q_8.2.2.1 q_8.2.2.2))
    else (f_E_roundTo_63 (q_12 - a1) (jshl (1 : Int64) ((q_12 - a1) - (1 : Int32))) (q_8.2.1 &&& (((2 : Int64) * (jshl (1 : Int64) ((q_12 - a1) - (1 : Int32)))) - (1 : Int64))) (0 : Int32) T_sg q_8.1 q_8.2.1 q_8.2.2.1 q_8.2.2.2))
    else (some ((0 : Int32), q_8.1, q_8.2.1, q_8.2.2.1, q_8.2.2.2)))))))))
def f_E_sizeOrder (T_hi : Int64) (T_lo : Int64) (T_pl : Int32) (T_mo : Int32) (U_hi : Int64) (U_lo : Int64) (U_pl : Int32) (U_mo : Int32) : Option (Int32 × Int64 × Int64 × Int32 × Int32 × Int64 × Int64 × Int32 × Int32) :=
    (Option.bind (f_E_lift T_hi T_lo T_pl T_mo) (fun q_1 =>
    (Option.bind (f_E_lift U_hi U_lo U_pl U_mo) (fun q_5 =>
    (if q_1.2.2.1 = q_5.2.2.1 then (if (lg_cmp q_1.1 q_5.1) = 0 then (if (lg_cmp q_1.2.1 q_5.2.1) = 0 then (if q_1.2.2.2 = q_5.2.2.2 then (some ((0 : Int32), q_1.1, q_1.2.1, q_1.2.2.1, q_1.2.2.2, q_5.1, q_5.2.1, q_5.2.2.1, q_5.2.2.2))
    else (if q_1.2.2.2 = 0 then (some ((-1 : Int32), q_1.1, q_1.2.1, q_1.2.2.1, q_1.2.2.2, q_5.1, q_5.2.1, q_5.2.2.1, q_5.2.2.2))
    else (some ((1 : Int32), q_1.1, q_1.2.1, q_1.2.2.1, q_1.2.2.2, q_5.1, q_5.2.1, q_5.2.2.1, q_5.2.2.2))))
    else (Option.bind (f_J_compareUnsigned q_1.2.1 q_5.2.1) (fun q_86 =>
    (if 0 ≤ q_86 then (some ((1 : Int32), q_1.1, q_1.2.1, q_1.2.2.1, q_1.2.2.2, q_5.1, q_5.2.1, q_5.2.2.1, q_5.2.2.2))
    else (some ((-1 : Int32), q_1.1, q_1.2.1, q_1.2.2.1, q_1.2.2.2, q_5.1, q_5.2.1, q_5.2.2.1, q_5.2.2.2))))))
    else (if 0 ≤ (lg_cmp q_1.1 q_5.1) then (some ((1 : Int32), q_1.1, q_1.2.1, q_1.2.2.1, q_1.2.2.2, q_5.1, q_5.2.1, q_5.2.2.1, q_5.2.2.2))
    else (some ((-1 : Int32), q_1.1, q_1.2.1, q_1.2.2.1, q_1.2.2.2, q_5.1, q_5.2.1, q_5.2.2.1, q_5.2.2.2))))
    else (if q_5.2.2.1 ≤ q_1.2.2.1 then (some ((1 : Int32), q_1.1, q_1.2.1, q_1.2.2.1, q_1.2.2.2, q_5.1, q_5.2.1, q_5.2.2.1, q_5.2.2.2))
    else (some ((-1 : Int32), q_1.1, q_1.2.1, q_1.2.2.1, q_1.2.2.2, q_5.1, q_5.2.1, q_5.2.2.1, q_5.2.2.2))))))))
def f_E_takeLesser_167 (T_sg : Int32) (T_hi : Int64) (T_lo : Int64) (T_pl : Int32) (T_mo : Int32) (U_sg : Int32) (U_hi : Int64) (U_lo : Int64) (U_pl : Int32) (U_mo : Int32) : Option (Int32 × Int64 × Int64 × Int32 × Int64 × Int64 × Int32 × Int32) :=
    (if (lg_cmp T_hi (0 : Int64)) = 0 then (if (lg_cmp T_lo (0 : Int64)) = 0 then (some ((0 : Int32), T_hi, T_lo, T_mo, U_hi, U_lo, U_pl, U_mo))
    else (some (T_sg, T_hi, T_lo, T_mo, U_hi, U_lo, U_pl, U_mo)))
    else (some (T_sg, T_hi, T_lo, T_mo, U_hi, U_lo, U_pl, U_mo)))
def f_E_takeLesser_153 (y0 : Int64) (y1 : Int64) (T_sg : Int32) (T_hi : Int64) (T_lo : Int64) (T_pl : Int32) (T_mo : Int32) (U_sg : Int32) (U_hi : Int64) (U_lo : Int64) (U_pl : Int32) (U_mo : Int32) : Option (Int32 × Int64 × Int64 × Int32 × Int64 × Int64 × Int32 × Int32) :=
    (f_E_takeLesser_167 T_sg (y1 - y0) (T_lo - (1 : Int64)) T_pl T_mo U_sg U_hi U_lo U_pl U_mo)
def f_E_takeLesser_108 (y0 : Int32) (y1 : Int64) (y2 : Int64) (T_sg : Int32) (T_hi : Int64) (T_lo : Int64) (T_pl : Int32) (T_mo : Int32) (U_sg : Int32) (U_hi : Int64) (U_lo : Int64) (U_pl : Int32) (U_mo : Int32) : Option (Int32 × Int64 × Int64 × Int32 × Int64 × Int64 × Int32 × Int32) :=
    (if T_mo = 0 then (f_E_takeLesser_167 T_sg (y2 - (y1 + y0.toInt64)) (T_lo - U_lo) T_pl T_mo U_sg U_hi U_lo U_pl U_mo)
    else (if (lg_cmp (T_lo - U_lo) (0 : Int64)) = 0 then (f_E_takeLesser_153 (1 : Int64) (y2 - (y1 + y0.toInt64)) T_sg (y2 - (y1 + y0.toInt64)) (T_lo - U_lo) T_pl T_mo U_sg U_hi U_lo U_pl U_mo)
    else (f_E_takeLesser_153 (0 : Int64) (y2 - (y1 + y0.toInt64)) T_sg (y2 - (y1 + y0.toInt64)) (T_lo - U_lo) T_pl T_mo U_sg U_hi U_lo U_pl U_mo)))
def f_E_takeLesser (T_sg : Int32) (T_hi : Int64) (T_lo : Int64) (T_pl : Int32) (T_mo : Int32) (U_sg : Int32) (U_hi : Int64) (U_lo : Int64) (U_pl : Int32) (U_mo : Int32) : Option (Int32 × Int64 × Int64 × Int32 × Int64 × Int64 × Int32 × Int32) :=
    (Option.bind (f_E_shiftDown U_hi U_lo U_pl U_mo (T_pl - U_pl)) (fun q_10 =>
    (if q_10.2.2.2 = 0 ∨ q_10.2.2.2 = 1 then (if T_sg = U_sg then (Option.bind (f_J_compareUnsigned (T_lo + q_10.2.1) q_10.2.1) (fun q_62 =>
    (if 0 ≤ q_62 then (some (T_sg, (T_hi + (q_10.1 + (0 : Int32).toInt64)), (T_lo + q_10.2.1), q_10.2.2.2, q_10.1, q_10.2.1, q_10.2.2.1, q_10.2.2.2))
    else (some (T_sg, (T_hi + (q_10.1 + (1 : Int32).toInt64)), (T_lo + q_10.2.1), q_10.2.2.2, q_10.1, q_10.2.1, q_10.2.2.1, q_10.2.2.2)))))
    else (Option.bind (f_J_compareUnsigned T_lo q_10.2.1) (fun q_97 =>
    (if 0 ≤ q_97 then (f_E_takeLesser_108 (0 : Int32) q_10.1 T_hi T_sg T_hi T_lo T_pl q_10.2.2.2 U_sg q_10.1 q_10.2.1 q_10.2.2.1 q_10.2.2.2)
    else (f_E_takeLesser_108 (1 : Int32) q_10.1 T_hi T_sg T_hi T_lo T_pl q_10.2.2.2 U_sg q_10.1 q_10.2.1 q_10.2.2.1 q_10.2.2.2))))) else none)))
def f_E_sum (T_sg : Int32) (T_hi : Int64) (T_lo : Int64) (T_pl : Int32) (T_mo : Int32) (U_sg : Int32) (U_hi : Int64) (U_lo : Int64) (U_pl : Int32) (U_mo : Int32) : Option (Bool × Int32 × Int64 × Int64 × Int32 × Int32 × Int32 × Int64 × Int64 × Int32 × Int32) :=
    (if U_sg = 0 then (some (true, T_sg, T_hi, T_lo, T_pl, T_mo, U_sg, U_hi, U_lo, U_pl, U_mo))
    else (if T_sg = 0 then (some (false, T_sg, T_hi, T_lo, T_pl, T_mo, U_sg, U_hi, U_lo, U_pl, U_mo))
    else (Option.bind (f_E_sizeOrder T_hi T_lo T_pl T_mo U_hi U_lo U_pl U_mo) (fun q_20 =>
    (if q_20.1 < 0 then (Option.bind (f_E_takeLesser U_sg q_20.2.2.2.2.2.1 q_20.2.2.2.2.2.2.1 q_20.2.2.2.2.2.2.2.1 q_20.2.2.2.2.2.2.2.2 T_sg q_20.2.1 q_20.2.2.1 q_20.2.2.2.1 q_20.2.2.2.2.1) (fun q_35 =>
    (some (false, T_sg, q_35.2.2.2.2.1, q_35.2.2.2.2.2.1, q_35.2.2.2.2.2.2.1, q_35.2.2.2.2.2.2.2, q_35.1, q_35.2.1, q_35.2.2.1, q_20.2.2.2.2.2.2.2.1, q_35.2.2.2.1))))
    else (Option.bind (f_E_takeLesser T_sg q_20.2.1 q_20.2.2.1 q_20.2.2.2.1 q_20.2.2.2.2.1 U_sg q_20.2.2.2.2.2.1 q_20.2.2.2.2.2.2.1 q_20.2.2.2.2.2.2.2.1 q_20.2.2.2.2.2.2.2.2) (fun q_28 =>
    (some (true, q_28.1, q_28.2.1, q_28.2.2.1, q_20.2.2.2.1, q_28.2.2.2.1, U_sg, q_28.2.2.2.2.1, q_28.2.2.2.2.2.1, q_28.2.2.2.2.2.2.1, q_28.2.2.2.2.2.2.2)))))))))
def f_X_isRegister (a0 : Int32) : Option (Int32) :=
    (if a0 < 0 then (some (0 : Int32))
    else (if (8 : Int32) ≤ a0 then (some (0 : Int32))
    else (some (1 : Int32))))
def f_X_order (a0 : Int64) (a1 : Int64) : Option (Int32) :=
    (if 0 ≤ (lg_cmp a0 a1) then (if (lg_cmp a0 a1) ≤ 0 then (some (0 : Int32))
    else (some (1 : Int32)))
    else (some (-1 : Int32)))
def f_X_bitLength (a0 : Int64) : Option (Int32) :=
    (Option.bind (f_J_nlz a0) (fun q_3 =>
    (some ((64 : Int32) - q_3))))
def f_X_isNumber (a0 : Int64) (a1 : Int32) : Option (Int32) :=
    (Option.bind (f_X_bitLength (jabs a0)) (fun q_5 =>
    (if (lg_cmp a0 (0 : Int64)) = 0 then (some (1 : Int32))
    else (if ((a1 + q_5) - (1 : Int32)) < (-100 : Int32) then (some (0 : Int32))
    else (if (100 : Int32) ≤ ((a1 + q_5) - (1 : Int32)) then (some (0 : Int32))
    else (some (1 : Int32)))))))
def f_X_leftAfter_17 : Nat → (Int64) → (Int64) → (Int32) → Option (Int64)
  | 0, _, _, _ => none
  | n_ + 1, x2, x5, x7 =>
    (if x7 ≤ 0 then (some x5)
    else (if x2 = 0 then none else ((f_X_leftAfter_17 n_) x2 ((jshl x5 (jmin x7 (10 : Int32))) - (jshl x5 (jmin x7 (10 : Int32))) / x2 * x2) (x7 + (-10 : Int32)))))
def f_X_leftAfter (a0 : Int64) (a1 : Int64) (a2 : Int32) : Option (Int64) :=
    (if 0 < (lg_cmp a1 (0 : Int64)) then (if a1 = 0 then none else (f_X_leftAfter_17 1000 a1 (a0 - a0 / a1 * a1) a2))
    else (some (0 : Int64)))
def f_X_shifted (a0 : Int64) (a1 : Int32) : Option (Int64) :=
    (if a1 < 0 then (if a1 ≤ (-64 : Int32) then (some (0 : Int64))
    else (some (jshr a0 (-a1))))
    else (some (jshl a0 a1)))
def f_X_isNarrow (M_f : Nat → Int64) (a1 : Int32) : Option (Int32) :=
    (if a1 < 0 ∨ 8 ≤ a1.toNatClampNeg then none else (if (lg_cmp ((M_f a1.toNatClampNeg) &&& (536870911 : Int64)) (0 : Int64)) = 0 then (some (1 : Int32))
    else (some (0 : Int32))))
def f_X_mayTake (M_f : Nat → Int64) (a1 : Int32) (a2 : Int32) (a3 : Int32) (a4 : Int32) : Option (Int32) :=
    (Option.bind (f_X_isRegister a1) (fun q_1 =>
    (if q_1 = 0 then (some (0 : Int32))
    else (Option.bind (f_X_isRegister a2) (fun q_8 =>
    (if q_8 = 0 then (some (0 : Int32))
    else (Option.bind (f_X_isRegister a3) (fun q_15 =>
    (if q_15 = 0 then (some (0 : Int32))
    else (if a4 = 0 then (some (1 : Int32))
    else (Option.bind (f_X_isNarrow M_f a2) (fun q_30 =>
    (if q_30 = 0 then (some (0 : Int32))
    else (Option.bind (f_X_isNarrow M_f a3) (fun q_38 =>
    (if q_38 = 0 then (some (0 : Int32))
    else (some (1 : Int32))))))))))))))))))
def f_X_narrowRegisters_4 : Nat → (Int32) → (Int32) → (Nat → Int64) → Option (Int32)
  | 0, _, _, _ => none
  | n_ + 1, x1, x2, M_f =>
    (if (8 : Int32) ≤ x2 then (some x1)
    else (Option.bind (f_X_isNarrow M_f x2) (fun q_12 =>
    (if q_12 = 0 then ((f_X_narrowRegisters_4 n_) x1 (x2 + (1 : Int32)) M_f)
    else ((f_X_narrowRegisters_4 n_) (x1 + (1 : Int32)) (x2 + (1 : Int32)) M_f)))))
def f_X_narrowRegisters (M_f : Nat → Int64) : Option (Int32) :=
    (f_X_narrowRegisters_4 1000 (0 : Int32) (0 : Int32) M_f)
def f_X_topOf (P_f : Nat → Int32) (a1 : Int32) : Option (Int32) :=
    (if a1 < 0 ∨ 8 ≤ a1.toNatClampNeg then none else (some (((P_f a1.toNatClampNeg) + (53 : Int32)) - (1 : Int32))))
def f_X_outOfRange (X_rc : Int32) : Option (Int32 × Int32) :=
    (some ((-2 : Int32), (X_rc + (1 : Int32))))
def f_X_store_54 (x1 : Int32) (x2 : Int64) (x4 : Int32) (x7 : Int32) (y0 : Int64) (y1 : Int32) (M_f : Nat → Int64) (P_f : Nat → Int32) : Option ((Nat → Int64) × (Nat → Int32)) :=
    (if y1 < 0 ∨ 8 ≤ y1.toNatClampNeg then none else (if (lg_cmp x2 (0 : Int64)) = 0 then (if x1 < 0 ∨ 8 ≤ x1.toNatClampNeg then none else (some ((vp_updL M_f y1.toNatClampNeg y0), (upd P_f x1.toNatClampNeg (0 : Int32)))))
    else (if x1 < 0 ∨ 8 ≤ x1.toNatClampNeg then none else (some ((vp_updL M_f y1.toNatClampNeg y0), (upd P_f x1.toNatClampNeg (x4 - x7)))))))
def f_X_store_33 (x1 : Int32) (x2 : Int64) (x4 : Int32) (x7 : Int32) (y0 : Int64) (M_f : Nat → Int64) (P_f : Nat → Int32) : Option ((Nat → Int64) × (Nat → Int32)) :=
    (if 0 ≤ (lg_cmp x2 (0 : Int64)) then (f_X_store_54 x1 x2 x4 x7 y0 x1 M_f P_f)
    else (f_X_store_54 x1 x2 x4 x7 (-y0) x1 M_f P_f))
def f_X_store (M_f : Nat → Int64) (P_f : Nat → Int32) (a1 : Int32) (a2 : Int64) (a3 : Int32) : Option ((Nat → Int64) × (Nat → Int32)) :=
    (Option.bind (f_X_bitLength (jabs a2)) (fun q_10 =>
    (if 0 ≤ ((53 : Int32) - q_10) then (f_X_store_33 a1 a2 a3 ((53 : Int32) - q_10) (jshl (jabs a2) ((53 : Int32) - q_10)) M_f P_f)
    else (f_X_store_33 a1 a2 a3 ((53 : Int32) - q_10) (jshr (jabs a2) (1 : Int32)) M_f P_f))))
def f_X_put (X_lo : Int32) (X_ro : Int32) (X_rc : Int32) (M_f : Nat → Int64) (P_f : Nat → Int32) (a1 : Int32) (a2 : Int64) (a3 : Int32) (a4 : Int32) : Option (Int32 × Int32 × Int32 × Int32 × (Nat → Int64) × (Nat → Int32)) :=
    (Option.bind (f_X_isNumber a2 a3) (fun q_3 =>
    (if q_3 = 0 then (Option.bind (f_X_outOfRange X_rc) (fun q_10 =>
    (some (q_10.1, X_lo, X_ro, q_10.2, M_f, P_f))))
    else (Option.bind (f_X_store M_f P_f a1 a2 a3) (fun q_19 =>
    (if a4 = 0 then (some ((0 : Int32), a4, X_ro, X_rc, q_19.1, q_19.2))
    else (some ((0 : Int32), a4, (X_ro + (1 : Int32)), X_rc, q_19.1, q_19.2))))))))
def f_X_finish_38 (x4 : Int32) (y0 : Int64) (y1 : Int32) (X_lo : Int32) (X_ro : Int32) (X_rc : Int32) (M_f : Nat → Int64) (P_f : Nat → Int32) (R_sg : Int32) (R_hi : Int64) (R_lo : Int64) (R_pl : Int32) (R_mo : Int32) : Option (Int32 × Int32 × Int32 × Int32 × (Nat → Int64) × (Nat → Int32) × Int64 × Int64 × Int32 × Int32) :=
    (Option.bind (f_X_put X_lo X_ro X_rc M_f P_f y1 y0 R_pl x4) (fun q_44 =>
    (some (q_44.1, q_44.2.1, q_44.2.2.1, q_44.2.2.2.1, q_44.2.2.2.2.1, q_44.2.2.2.2.2, R_hi, R_lo, R_pl, R_mo))))
def f_X_finish_12 (x1 : Int32) (y0 : Int32) (X_lo : Int32) (X_ro : Int32) (X_rc : Int32) (M_f : Nat → Int64) (P_f : Nat → Int32) (R_sg : Int32) (R_hi : Int64) (R_lo : Int64) (R_pl : Int32) (R_mo : Int32) : Option (Int32 × Int32 × Int32 × Int32 × (Nat → Int64) × (Nat → Int32) × Int64 × Int64 × Int32 × Int32) :=
    (Option.bind (f_E_roundTo R_sg R_hi R_lo R_pl R_mo y0) (fun q_12 =>
    (if 0 ≤ R_sg then (f_X_finish_38 q_12.1 q_12.2.2.1 x1 X_lo X_ro X_rc M_f P_f R_sg q_12.2.1 q_12.2.2.1 q_12.2.2.2.1 q_12.2.2.2.2)
    else (f_X_finish_38 q_12.1 (-q_12.2.2.1) x1 X_lo X_ro X_rc M_f P_f R_sg q_12.2.1 q_12.2.2.1 q_12.2.2.2.1 q_12.2.2.2.2))))
def f_X_finish (X_lo : Int32) (X_ro : Int32) (X_rc : Int32) (M_f : Nat → Int64) (P_f : Nat → Int32) (R_sg : Int32) (R_hi : Int64) (R_lo : Int64) (R_pl : Int32) (R_mo : Int32) (a1 : Int32) (a3 : Int32) : Option (Int32 × Int32 × Int32 × Int32 × (Nat → Int64) × (Nat → Int32) × Int64 × Int64 × Int32 × Int32) :=
    (if a3 = 0 then (f_X_finish_12 a1 (53 : Int32) X_lo X_ro X_rc M_f P_f R_sg R_hi R_lo R_pl R_mo)
    else (f_X_finish_12 a1 (24 : Int32) X_lo X_ro X_rc M_f P_f R_sg R_hi R_lo R_pl R_mo))
def f_X_productPlus (X_lo : Int32) (X_ro : Int32) (X_rc : Int32) (M_f : Nat → Int64) (P_f : Nat → Int32) (E1_sg : Int32) (E1_hi : Int64) (E1_lo : Int64) (E1_pl : Int32) (E1_mo : Int32) (E2_sg : Int32) (E2_hi : Int64) (E2_lo : Int64) (E2_pl : Int32) (E2_mo : Int32) (a1 : Int32) (a2 : Int32) (a3 : Int32) (a4 : Int32) (a5 : Int32) : Option (Int32 × Int32 × Int32 × Int32 × (Nat → Int64) × (Nat → Int32) × Int32 × Int64 × Int64 × Int32 × Int32 × Int32 × Int64 × Int64 × Int32 × Int32) :=
    (Option.bind (f_X_mayTake M_f a1 a2 a3 a5) (fun q_6 =>
    (if q_6 = 0 then (some ((-1 : Int32), X_lo, X_ro, X_rc, M_f, P_f, E1_sg, E1_hi, E1_lo, E1_pl, E1_mo, E2_sg, E2_hi, E2_lo, E2_pl, E2_mo))
    else (Option.bind (f_X_mayTake M_f a1 a2 a4 a5) (fun q_19 =>
    (if q_19 = 0 then (some ((-1 : Int32), X_lo, X_ro, X_rc, M_f, P_f, E1_sg, E1_hi, E1_lo, E1_pl, E1_mo, E2_sg, E2_hi, E2_lo, E2_pl, E2_mo))
    else (if a2 < 0 ∨ 8 ≤ a2.toNatClampNeg then none else (if a3 < 0 ∨ 8 ≤ a3.toNatClampNeg then none else (if a2 < 0 ∨ 8 ≤ a2.toNatClampNeg then none else (if a3 < 0 ∨ 8 ≤ a3.toNatClampNeg then none else (Option.bind (f_E_holdProduct E1_sg E1_hi E1_lo E1_pl E1_mo (M_f a2.toNatClampNeg) (M_f a3.toNatClampNeg) ((P_f a2.toNatClampNeg) + (P_f a3.toNatClampNeg))) (fun q_56 =>
    (if a4 < 0 ∨ 8 ≤ a4.toNatClampNeg then none else (if a4 < 0 ∨ 8 ≤ a4.toNatClampNeg then none else (Option.bind (f_E_hold E2_sg E2_hi E2_lo E2_pl E2_mo (M_f a4.toNatClampNeg) (P_f a4.toNatClampNeg)) (fun q_77 =>
    (Option.bind (f_E_sum q_56.1 q_56.2.1 q_56.2.2.1 q_56.2.2.2.1 q_56.2.2.2.2 q_77.1 q_77.2.1 q_77.2.2.1 q_77.2.2.2.1 q_77.2.2.2.2) (fun q_90 =>
    (if q_90.1 = true then (Option.bind (f_X_finish X_lo X_ro X_rc M_f P_f q_90.2.1 q_90.2.2.1 q_90.2.2.2.1 q_90.2.2.2.2.1 q_90.2.2.2.2.2.1 a1 a5) (fun q_95 =>
    (some (q_95.1, q_95.2.1, q_95.2.2.1, q_95.2.2.2.1, q_95.2.2.2.2.1, q_95.2.2.2.2.2.1, q_90.2.1, q_95.2.2.2.2.2.2.1, q_95.2.2.2.2.2.2.2.1, q_95.2.2.2.2.2.2.2.2.1, q_95.2.2.2.2.2.2.2.2.2, q_90.2.2.2.2.2.2.1, q_90.2.2.2.2.2.2.2.1, q_90.2.2.2.2.2.2.2.2.1, q_90.2.2.2.2.2.2.2.2.2.1, q_90.2.2.2.2.2.2.2.2.2.2))))
    else (Option.bind (f_X_finish X_lo X_ro X_rc M_f P_f q_90.2.2.2.2.2.2.1 q_90.2.2.2.2.2.2.2.1 q_90.2.2.2.2.2.2.2.2.1 q_90.2.2.2.2.2.2.2.2.2.1 q_90.2.2.2.2.2.2.2.2.2.2 a1 a5) (fun q_95 =>
    (some (q_95.1, q_95.2.1, q_95.2.2.1, q_95.2.2.2.1, q_95.2.2.2.2.1, q_95.2.2.2.2.2.1, q_90.2.1, q_90.2.2.1, q_90.2.2.2.1, q_90.2.2.2.2.1, q_90.2.2.2.2.2.1, q_90.2.2.2.2.2.2.1, q_95.2.2.2.2.2.2.1, q_95.2.2.2.2.2.2.2.1, q_95.2.2.2.2.2.2.2.2.1, q_95.2.2.2.2.2.2.2.2.2)))))))))))))))))))))))
def f_X_isFarGreater (M_f : Nat → Int64) (P_f : Nat → Int32) (a1 : Int32) (a2 : Int32) : Option (Int32) :=
    (if a1 < 0 ∨ 8 ≤ a1.toNatClampNeg then none else (if a2 < 0 ∨ 8 ≤ a2.toNatClampNeg then none else (if a1 < 0 ∨ 8 ≤ a1.toNatClampNeg then none else (if (lg_cmp (M_f a1.toNatClampNeg) (0 : Int64)) = 0 then (some (0 : Int32))
    else (if (60 : Int32) ≤ ((P_f a1.toNatClampNeg) - (P_f a2.toNatClampNeg)) then (if (60 : Int32) < ((P_f a1.toNatClampNeg) - (P_f a2.toNatClampNeg)) then (some (1 : Int32))
    else (if a1 < 0 ∨ 8 ≤ a1.toNatClampNeg then none else (if a2 < 0 ∨ 8 ≤ a2.toNatClampNeg then none else (if (lg_cmp (jabs (M_f a1.toNatClampNeg)) (jabs (M_f a2.toNatClampNeg))) < 0 then (some (0 : Int32))
    else (some (1 : Int32))))))
    else (some (0 : Int32)))))))
def f_X_cubeOrder (M_f : Nat → Int64) (P_f : Nat → Int32) (E1_sg : Int32) (E1_hi : Int64) (E1_lo : Int64) (E1_pl : Int32) (E1_mo : Int32) (E2_sg : Int32) (E2_hi : Int64) (E2_lo : Int64) (E2_pl : Int32) (E2_mo : Int32) (E3_sg : Int32) (E3_hi : Int64) (E3_lo : Int64) (E3_pl : Int32) (E3_mo : Int32) (a1 : Int64) (a2 : Int32) (a3 : Int32) : Option (Int32 × Int32 × Int64 × Int64 × Int32 × Int32 × Int32 × Int64 × Int64 × Int32 × Int32 × Int32 × Int64 × Int64 × Int32 × Int32) :=
    (Option.bind (f_E_holdProduct E1_sg E1_hi E1_lo E1_pl E1_mo a1 a1 (0 : Int32)) (fun q_7 =>
    (Option.bind (f_E_holdProduct q_7.1 q_7.2.1 q_7.2.2.1 q_7.2.2.2.1 q_7.2.2.2.2 ((jshl q_7.2.1 (11 : Int32)) ||| (jushr q_7.2.2.1 (53 : Int32))) a1 (((3 : Int32) * a2) + (53 : Int32))) (fun q_59 =>
    (Option.bind (f_E_holdProduct E2_sg E2_hi E2_lo E2_pl E2_mo (q_7.2.2.1 &&& (9007199254740991 : Int64)) a1 ((3 : Int32) * a2)) (fun q_72 =>
    (if a3 < 0 ∨ 8 ≤ a3.toNatClampNeg then none else (if a3 < 0 ∨ 8 ≤ a3.toNatClampNeg then none else (Option.bind (f_E_hold E3_sg E3_hi E3_lo E3_pl E3_mo (jabs (M_f a3.toNatClampNeg)) (P_f a3.toNatClampNeg)) (fun q_96 =>
    (Option.bind (f_E_sum q_59.1 q_59.2.1 q_59.2.2.1 q_59.2.2.2.1 q_59.2.2.2.2 q_72.1 q_72.2.1 q_72.2.2.1 q_72.2.2.2.1 q_72.2.2.2.2) (fun q_107 =>
    (if q_107.1 = true then (Option.bind (f_E_sizeOrder q_107.2.2.1 q_107.2.2.2.1 q_107.2.2.2.2.1 q_107.2.2.2.2.2.1 q_96.2.1 q_96.2.2.1 q_96.2.2.2.1 q_96.2.2.2.2) (fun q_114 =>
    (some (q_114.1, q_107.2.1, q_114.2.1, q_114.2.2.1, q_114.2.2.2.1, q_114.2.2.2.2.1, q_107.2.2.2.2.2.2.1, q_107.2.2.2.2.2.2.2.1, q_107.2.2.2.2.2.2.2.2.1, q_107.2.2.2.2.2.2.2.2.2.1, q_107.2.2.2.2.2.2.2.2.2.2, q_96.1, q_114.2.2.2.2.2.1, q_114.2.2.2.2.2.2.1, q_114.2.2.2.2.2.2.2.1, q_114.2.2.2.2.2.2.2.2))))
    else (Option.bind (f_E_sizeOrder q_107.2.2.2.2.2.2.2.1 q_107.2.2.2.2.2.2.2.2.1 q_107.2.2.2.2.2.2.2.2.2.1 q_107.2.2.2.2.2.2.2.2.2.2 q_96.2.1 q_96.2.2.1 q_96.2.2.2.1 q_96.2.2.2.2) (fun q_114 =>
    (some (q_114.1, q_107.2.1, q_107.2.2.1, q_107.2.2.2.1, q_107.2.2.2.2.1, q_107.2.2.2.2.2.1, q_107.2.2.2.2.2.2.1, q_114.2.1, q_114.2.2.1, q_114.2.2.2.1, q_114.2.2.2.2.1, q_96.1, q_114.2.2.2.2.2.1, q_114.2.2.2.2.2.2.1, q_114.2.2.2.2.2.2.2.1, q_114.2.2.2.2.2.2.2.2)))))))))))))))))
def f_X_set (X_rc : Int32) (M_f : Nat → Int64) (P_f : Nat → Int32) (a1 : Int32) (a2 : Int64) (a3 : Int32) : Option (Int32 × Int32 × (Nat → Int64) × (Nat → Int32)) :=
    (Option.bind (f_X_isRegister a1) (fun q_1 =>
    (if q_1 = 0 then (some ((-1 : Int32), X_rc, M_f, P_f))
    else (if (lg_cmp a2 (-9007199254740992 : Int64)) ≤ 0 then (some ((-1 : Int32), X_rc, M_f, P_f))
    else (if 0 ≤ (lg_cmp a2 (9007199254740992 : Int64)) then (some ((-1 : Int32), X_rc, M_f, P_f))
    else (if a3 < (-250 : Int32) then (some ((-1 : Int32), X_rc, M_f, P_f))
    else (if a3 ≤ (250 : Int32) then (Option.bind (f_X_isNumber a2 a3) (fun q_44 =>
    (if q_44 = 0 then (Option.bind (f_X_outOfRange X_rc) (fun q_51 =>
    (some (q_51.1, q_51.2, M_f, P_f))))
    else (Option.bind (f_X_store M_f P_f a1 a2 a3) (fun q_60 =>
    (some ((0 : Int32), X_rc, q_60.1, q_60.2)))))))
    else (some ((-1 : Int32), X_rc, M_f, P_f)))))))))
def f_X_add (X_lo : Int32) (X_ro : Int32) (X_rc : Int32) (M_f : Nat → Int64) (P_f : Nat → Int32) (E1_sg : Int32) (E1_hi : Int64) (E1_lo : Int64) (E1_pl : Int32) (E1_mo : Int32) (E2_sg : Int32) (E2_hi : Int64) (E2_lo : Int64) (E2_pl : Int32) (E2_mo : Int32) (a1 : Int32) (a2 : Int32) (a3 : Int32) (a4 : Int32) : Option (Int32 × Int32 × Int32 × Int32 × (Nat → Int64) × (Nat → Int32) × Int32 × Int64 × Int64 × Int32 × Int32 × Int32 × Int64 × Int64 × Int32 × Int32) :=
    (Option.bind (f_X_mayTake M_f a1 a2 a3 a4) (fun q_6 =>
    (if q_6 = 0 then (some ((-1 : Int32), X_lo, X_ro, X_rc, M_f, P_f, E1_sg, E1_hi, E1_lo, E1_pl, E1_mo, E2_sg, E2_hi, E2_lo, E2_pl, E2_mo))
    else (if a2 < 0 ∨ 8 ≤ a2.toNatClampNeg then none else (if a2 < 0 ∨ 8 ≤ a2.toNatClampNeg then none else (Option.bind (f_E_hold E1_sg E1_hi E1_lo E1_pl E1_mo (M_f a2.toNatClampNeg) (P_f a2.toNatClampNeg)) (fun q_30 =>
    (if a3 < 0 ∨ 8 ≤ a3.toNatClampNeg then none else (if a3 < 0 ∨ 8 ≤ a3.toNatClampNeg then none else (Option.bind (f_E_hold E2_sg E2_hi E2_lo E2_pl E2_mo (M_f a3.toNatClampNeg) (P_f a3.toNatClampNeg)) (fun q_49 =>
    (Option.bind (f_E_sum q_30.1 q_30.2.1 q_30.2.2.1 q_30.2.2.2.1 q_30.2.2.2.2 q_49.1 q_49.2.1 q_49.2.2.1 q_49.2.2.2.1 q_49.2.2.2.2) (fun q_62 =>
    (if q_62.1 = true then (Option.bind (f_X_finish X_lo X_ro X_rc M_f P_f q_62.2.1 q_62.2.2.1 q_62.2.2.2.1 q_62.2.2.2.2.1 q_62.2.2.2.2.2.1 a1 a4) (fun q_67 =>
    (some (q_67.1, q_67.2.1, q_67.2.2.1, q_67.2.2.2.1, q_67.2.2.2.2.1, q_67.2.2.2.2.2.1, q_62.2.1, q_67.2.2.2.2.2.2.1, q_67.2.2.2.2.2.2.2.1, q_67.2.2.2.2.2.2.2.2.1, q_67.2.2.2.2.2.2.2.2.2, q_62.2.2.2.2.2.2.1, q_62.2.2.2.2.2.2.2.1, q_62.2.2.2.2.2.2.2.2.1, q_62.2.2.2.2.2.2.2.2.2.1, q_62.2.2.2.2.2.2.2.2.2.2))))
    else (Option.bind (f_X_finish X_lo X_ro X_rc M_f P_f q_62.2.2.2.2.2.2.1 q_62.2.2.2.2.2.2.2.1 q_62.2.2.2.2.2.2.2.2.1 q_62.2.2.2.2.2.2.2.2.2.1 q_62.2.2.2.2.2.2.2.2.2.2 a1 a4) (fun q_67 =>
    (some (q_67.1, q_67.2.1, q_67.2.2.1, q_67.2.2.2.1, q_67.2.2.2.2.1, q_67.2.2.2.2.2.1, q_62.2.1, q_62.2.2.1, q_62.2.2.2.1, q_62.2.2.2.2.1, q_62.2.2.2.2.2.1, q_62.2.2.2.2.2.2.1, q_67.2.2.2.2.2.2.1, q_67.2.2.2.2.2.2.2.1, q_67.2.2.2.2.2.2.2.2.1, q_67.2.2.2.2.2.2.2.2.2))))))))))))))))))
def f_X_subtract (X_lo : Int32) (X_ro : Int32) (X_rc : Int32) (M_f : Nat → Int64) (P_f : Nat → Int32) (E1_sg : Int32) (E1_hi : Int64) (E1_lo : Int64) (E1_pl : Int32) (E1_mo : Int32) (E2_sg : Int32) (E2_hi : Int64) (E2_lo : Int64) (E2_pl : Int32) (E2_mo : Int32) (a1 : Int32) (a2 : Int32) (a3 : Int32) (a4 : Int32) : Option (Int32 × Int32 × Int32 × Int32 × (Nat → Int64) × (Nat → Int32) × Int32 × Int64 × Int64 × Int32 × Int32 × Int32 × Int64 × Int64 × Int32 × Int32) :=
    (Option.bind (f_X_mayTake M_f a1 a2 a3 a4) (fun q_6 =>
    (if q_6 = 0 then (some ((-1 : Int32), X_lo, X_ro, X_rc, M_f, P_f, E1_sg, E1_hi, E1_lo, E1_pl, E1_mo, E2_sg, E2_hi, E2_lo, E2_pl, E2_mo))
    else (if a2 < 0 ∨ 8 ≤ a2.toNatClampNeg then none else (if a2 < 0 ∨ 8 ≤ a2.toNatClampNeg then none else (Option.bind (f_E_hold E1_sg E1_hi E1_lo E1_pl E1_mo (M_f a2.toNatClampNeg) (P_f a2.toNatClampNeg)) (fun q_30 =>
    (if a3 < 0 ∨ 8 ≤ a3.toNatClampNeg then none else (if a3 < 0 ∨ 8 ≤ a3.toNatClampNeg then none else (Option.bind (f_E_hold E2_sg E2_hi E2_lo E2_pl E2_mo (-(M_f a3.toNatClampNeg)) (P_f a3.toNatClampNeg)) (fun q_50 =>
    (Option.bind (f_E_sum q_30.1 q_30.2.1 q_30.2.2.1 q_30.2.2.2.1 q_30.2.2.2.2 q_50.1 q_50.2.1 q_50.2.2.1 q_50.2.2.2.1 q_50.2.2.2.2) (fun q_63 =>
    (if q_63.1 = true then (Option.bind (f_X_finish X_lo X_ro X_rc M_f P_f q_63.2.1 q_63.2.2.1 q_63.2.2.2.1 q_63.2.2.2.2.1 q_63.2.2.2.2.2.1 a1 a4) (fun q_68 =>
    (some (q_68.1, q_68.2.1, q_68.2.2.1, q_68.2.2.2.1, q_68.2.2.2.2.1, q_68.2.2.2.2.2.1, q_63.2.1, q_68.2.2.2.2.2.2.1, q_68.2.2.2.2.2.2.2.1, q_68.2.2.2.2.2.2.2.2.1, q_68.2.2.2.2.2.2.2.2.2, q_63.2.2.2.2.2.2.1, q_63.2.2.2.2.2.2.2.1, q_63.2.2.2.2.2.2.2.2.1, q_63.2.2.2.2.2.2.2.2.2.1, q_63.2.2.2.2.2.2.2.2.2.2))))
    else (Option.bind (f_X_finish X_lo X_ro X_rc M_f P_f q_63.2.2.2.2.2.2.1 q_63.2.2.2.2.2.2.2.1 q_63.2.2.2.2.2.2.2.2.1 q_63.2.2.2.2.2.2.2.2.2.1 q_63.2.2.2.2.2.2.2.2.2.2 a1 a4) (fun q_68 =>
    (some (q_68.1, q_68.2.1, q_68.2.2.1, q_68.2.2.2.1, q_68.2.2.2.2.1, q_68.2.2.2.2.2.1, q_63.2.1, q_63.2.2.1, q_63.2.2.2.1, q_63.2.2.2.2.1, q_63.2.2.2.2.2.1, q_63.2.2.2.2.2.2.1, q_68.2.2.2.2.2.2.1, q_68.2.2.2.2.2.2.2.1, q_68.2.2.2.2.2.2.2.2.1, q_68.2.2.2.2.2.2.2.2.2))))))))))))))))))
def f_X_multiply (X_lo : Int32) (X_ro : Int32) (X_rc : Int32) (M_f : Nat → Int64) (P_f : Nat → Int32) (E1_sg : Int32) (E1_hi : Int64) (E1_lo : Int64) (E1_pl : Int32) (E1_mo : Int32) (a1 : Int32) (a2 : Int32) (a3 : Int32) (a4 : Int32) : Option (Int32 × Int32 × Int32 × Int32 × (Nat → Int64) × (Nat → Int32) × Int32 × Int64 × Int64 × Int32 × Int32) :=
    (Option.bind (f_X_mayTake M_f a1 a2 a3 a4) (fun q_6 =>
    (if q_6 = 0 then (some ((-1 : Int32), X_lo, X_ro, X_rc, M_f, P_f, E1_sg, E1_hi, E1_lo, E1_pl, E1_mo))
    else (if a2 < 0 ∨ 8 ≤ a2.toNatClampNeg then none else (if a3 < 0 ∨ 8 ≤ a3.toNatClampNeg then none else (if a2 < 0 ∨ 8 ≤ a2.toNatClampNeg then none else (if a3 < 0 ∨ 8 ≤ a3.toNatClampNeg then none else (Option.bind (f_E_holdProduct E1_sg E1_hi E1_lo E1_pl E1_mo (M_f a2.toNatClampNeg) (M_f a3.toNatClampNeg) ((P_f a2.toNatClampNeg) + (P_f a3.toNatClampNeg))) (fun q_43 =>
    (Option.bind (f_X_finish X_lo X_ro X_rc M_f P_f q_43.1 q_43.2.1 q_43.2.2.1 q_43.2.2.2.1 q_43.2.2.2.2 a1 a4) (fun q_54 =>
    (some (q_54.1, q_54.2.1, q_54.2.2.1, q_54.2.2.2.1, q_54.2.2.2.2.1, q_54.2.2.2.2.2.1, q_43.1, q_54.2.2.2.2.2.2.1, q_54.2.2.2.2.2.2.2.1, q_54.2.2.2.2.2.2.2.2.1, q_54.2.2.2.2.2.2.2.2.2)))))))))))))
def f_X_divide (X_lo : Int32) (X_ro : Int32) (X_rc : Int32) (M_f : Nat → Int64) (P_f : Nat → Int32) (E1_sg : Int32) (E1_hi : Int64) (E1_lo : Int64) (E1_pl : Int32) (E1_mo : Int32) (a1 : Int32) (a2 : Int32) (a3 : Int32) (a4 : Int32) : Option (Int32 × Int32 × Int32 × Int32 × (Nat → Int64) × (Nat → Int32) × Int32 × Int64 × Int64 × Int32 × Int32) :=
    (Option.bind (f_X_mayTake M_f a1 a2 a3 a4) (fun q_6 =>
    (if q_6 = 0 then (some ((-1 : Int32), X_lo, X_ro, X_rc, M_f, P_f, E1_sg, E1_hi, E1_lo, E1_pl, E1_mo))
    else (if a3 < 0 ∨ 8 ≤ a3.toNatClampNeg then none else (if (lg_cmp (M_f a3.toNatClampNeg) (0 : Int64)) = 0 then (some ((-1 : Int32), X_lo, X_ro, X_rc, M_f, P_f, E1_sg, E1_hi, E1_lo, E1_pl, E1_mo))
    else (if a2 < 0 ∨ 8 ≤ a2.toNatClampNeg then none else (if a3 < 0 ∨ 8 ≤ a3.toNatClampNeg then none else (if a2 < 0 ∨ 8 ≤ a2.toNatClampNeg then none else (if a3 < 0 ∨ 8 ≤ a3.toNatClampNeg then none else (Option.bind (f_E_holdQuotient E1_sg E1_hi E1_lo E1_pl E1_mo (M_f a2.toNatClampNeg) (M_f a3.toNatClampNeg) ((P_f a2.toNatClampNeg) - (P_f a3.toNatClampNeg))) (fun q_54 =>
    (Option.bind (f_X_finish X_lo X_ro X_rc M_f P_f q_54.1 q_54.2.1 q_54.2.2.1 q_54.2.2.2.1 q_54.2.2.2.2 a1 a4) (fun q_65 =>
    (some (q_65.1, q_65.2.1, q_65.2.2.1, q_65.2.2.2.1, q_65.2.2.2.2.1, q_65.2.2.2.2.2.1, q_54.1, q_65.2.2.2.2.2.2.1, q_65.2.2.2.2.2.2.2.1, q_65.2.2.2.2.2.2.2.2.1, q_65.2.2.2.2.2.2.2.2.2)))))))))))))))
def f_X_fuse (X_lo : Int32) (X_ro : Int32) (X_rc : Int32) (M_f : Nat → Int64) (P_f : Nat → Int32) (E1_sg : Int32) (E1_hi : Int64) (E1_lo : Int64) (E1_pl : Int32) (E1_mo : Int32) (E2_sg : Int32) (E2_hi : Int64) (E2_lo : Int64) (E2_pl : Int32) (E2_mo : Int32) (a1 : Int32) (a2 : Int32) (a3 : Int32) (a4 : Int32) : Option (Int32 × Int32 × Int32 × Int32 × (Nat → Int64) × (Nat → Int32) × Int32 × Int64 × Int64 × Int32 × Int32 × Int32 × Int64 × Int64 × Int32 × Int32) :=
    (Option.bind (f_X_productPlus X_lo X_ro X_rc M_f P_f E1_sg E1_hi E1_lo E1_pl E1_mo E2_sg E2_hi E2_lo E2_pl E2_mo a1 a2 a3 a4 (0 : Int32)) (fun q_7 =>
    (some (q_7.1, q_7.2.1, q_7.2.2.1, q_7.2.2.2.1, q_7.2.2.2.2.1, q_7.2.2.2.2.2.1, q_7.2.2.2.2.2.2.1, q_7.2.2.2.2.2.2.2.1, q_7.2.2.2.2.2.2.2.2.1, q_7.2.2.2.2.2.2.2.2.2.1, q_7.2.2.2.2.2.2.2.2.2.2.1, q_7.2.2.2.2.2.2.2.2.2.2.2.1, q_7.2.2.2.2.2.2.2.2.2.2.2.2.1, q_7.2.2.2.2.2.2.2.2.2.2.2.2.2.1, q_7.2.2.2.2.2.2.2.2.2.2.2.2.2.2.1, q_7.2.2.2.2.2.2.2.2.2.2.2.2.2.2.2))))
def f_X_fuseNarrow (X_lo : Int32) (X_ro : Int32) (X_rc : Int32) (M_f : Nat → Int64) (P_f : Nat → Int32) (E1_sg : Int32) (E1_hi : Int64) (E1_lo : Int64) (E1_pl : Int32) (E1_mo : Int32) (E2_sg : Int32) (E2_hi : Int64) (E2_lo : Int64) (E2_pl : Int32) (E2_mo : Int32) (a1 : Int32) (a2 : Int32) (a3 : Int32) (a4 : Int32) : Option (Int32 × Int32 × Int32 × Int32 × (Nat → Int64) × (Nat → Int32) × Int32 × Int64 × Int64 × Int32 × Int32 × Int32 × Int64 × Int64 × Int32 × Int32) :=
    (Option.bind (f_X_productPlus X_lo X_ro X_rc M_f P_f E1_sg E1_hi E1_lo E1_pl E1_mo E2_sg E2_hi E2_lo E2_pl E2_mo a1 a2 a3 a4 (1 : Int32)) (fun q_7 =>
    (some (q_7.1, q_7.2.1, q_7.2.2.1, q_7.2.2.2.1, q_7.2.2.2.2.1, q_7.2.2.2.2.2.1, q_7.2.2.2.2.2.2.1, q_7.2.2.2.2.2.2.2.1, q_7.2.2.2.2.2.2.2.2.1, q_7.2.2.2.2.2.2.2.2.2.1, q_7.2.2.2.2.2.2.2.2.2.2.1, q_7.2.2.2.2.2.2.2.2.2.2.2.1, q_7.2.2.2.2.2.2.2.2.2.2.2.2.1, q_7.2.2.2.2.2.2.2.2.2.2.2.2.2.1, q_7.2.2.2.2.2.2.2.2.2.2.2.2.2.2.1, q_7.2.2.2.2.2.2.2.2.2.2.2.2.2.2.2))))
def f_X_root (X_lo : Int32) (X_ro : Int32) (X_rc : Int32) (M_f : Nat → Int64) (P_f : Nat → Int32) (E1_sg : Int32) (E1_hi : Int64) (E1_lo : Int64) (E1_pl : Int32) (E1_mo : Int32) (a1 : Int32) (a2 : Int32) (a3 : Int32) : Option (Int32 × Int32 × Int32 × Int32 × (Nat → Int64) × (Nat → Int32) × Int32 × Int64 × Int64 × Int32 × Int32) :=
    (Option.bind (f_X_mayTake M_f a1 a2 a2 a3) (fun q_5 =>
    (if q_5 = 0 then (some ((-1 : Int32), X_lo, X_ro, X_rc, M_f, P_f, E1_sg, E1_hi, E1_lo, E1_pl, E1_mo))
    else (if a2 < 0 ∨ 8 ≤ a2.toNatClampNeg then none else (if 0 ≤ (lg_cmp (M_f a2.toNatClampNeg) (0 : Int64)) then (if a2 < 0 ∨ 8 ≤ a2.toNatClampNeg then none else (if a2 < 0 ∨ 8 ≤ a2.toNatClampNeg then none else (Option.bind (f_E_holdRoot E1_sg E1_hi E1_lo E1_pl E1_mo (M_f a2.toNatClampNeg) (P_f a2.toNatClampNeg)) (fun q_40 =>
    (Option.bind (f_X_finish X_lo X_ro X_rc M_f P_f q_40.1 q_40.2.1 q_40.2.2.1 q_40.2.2.2.1 q_40.2.2.2.2 a1 a3) (fun q_50 =>
    (some (q_50.1, q_50.2.1, q_50.2.2.1, q_50.2.2.2.1, q_50.2.2.2.2.1, q_50.2.2.2.2.2.1, q_40.1, q_50.2.2.2.2.2.2.1, q_50.2.2.2.2.2.2.2.1, q_50.2.2.2.2.2.2.2.2.1, q_50.2.2.2.2.2.2.2.2.2))))))))
    else (some ((-1 : Int32), X_lo, X_ro, X_rc, M_f, P_f, E1_sg, E1_hi, E1_lo, E1_pl, E1_mo)))))))
def f_X_remainder_138 (x1 : Int32) (X_lo : Int32) (X_ro : Int32) (X_rc : Int32) (M_f : Nat → Int64) (P_f : Nat → Int32) (E1_sg : Int32) (E1_hi : Int64) (E1_lo : Int64) (E1_pl : Int32) (E1_mo : Int32) : Option (Int32 × Int32 × Int32 × Int32 × (Nat → Int64) × (Nat → Int32) × Int32 × Int64 × Int64 × Int32 × Int32) :=
    (Option.bind (f_X_finish X_lo X_ro X_rc M_f P_f E1_sg E1_hi E1_lo E1_pl E1_mo x1 (0 : Int32)) (fun q_145 =>
    (some (q_145.1, q_145.2.1, q_145.2.2.1, q_145.2.2.2.1, q_145.2.2.2.2.1, q_145.2.2.2.2.2.1, E1_sg, q_145.2.2.2.2.2.2.1, q_145.2.2.2.2.2.2.2.1, q_145.2.2.2.2.2.2.2.2.1, q_145.2.2.2.2.2.2.2.2.2))))
def f_X_remainder_129 (x1 : Int32) (x3 : Int32) (y0 : Int64) (X_lo : Int32) (X_ro : Int32) (X_rc : Int32) (M_f : Nat → Int64) (P_f : Nat → Int32) (E1_sg : Int32) (E1_hi : Int64) (E1_lo : Int64) (E1_pl : Int32) (E1_mo : Int32) : Option (Int32 × Int32 × Int32 × Int32 × (Nat → Int64) × (Nat → Int32) × Int32 × Int64 × Int64 × Int32 × Int32) :=
    (if x3 < 0 ∨ 8 ≤ x3.toNatClampNeg then none else (Option.bind (f_E_hold E1_sg E1_hi E1_lo E1_pl E1_mo y0 (P_f x3.toNatClampNeg)) (fun q_135 =>
    (f_X_remainder_138 x1 X_lo X_ro X_rc M_f P_f q_135.1 q_135.2.1 q_135.2.2.1 q_135.2.2.2.1 q_135.2.2.2.2))))
def f_X_remainder (X_lo : Int32) (X_ro : Int32) (X_rc : Int32) (M_f : Nat → Int64) (P_f : Nat → Int32) (E1_sg : Int32) (E1_hi : Int64) (E1_lo : Int64) (E1_pl : Int32) (E1_mo : Int32) (a1 : Int32) (a2 : Int32) (a3 : Int32) : Option (Int32 × Int32 × Int32 × Int32 × (Nat → Int64) × (Nat → Int32) × Int32 × Int64 × Int64 × Int32 × Int32) :=
    (Option.bind (f_X_mayTake M_f a1 a2 a3 (0 : Int32)) (fun q_5 =>
    (if q_5 = 0 then (some ((-1 : Int32), X_lo, X_ro, X_rc, M_f, P_f, E1_sg, E1_hi, E1_lo, E1_pl, E1_mo))
    else (if a3 < 0 ∨ 8 ≤ a3.toNatClampNeg then none else (if (lg_cmp (M_f a3.toNatClampNeg) (0 : Int64)) = 0 then (some ((-1 : Int32), X_lo, X_ro, X_rc, M_f, P_f, E1_sg, E1_hi, E1_lo, E1_pl, E1_mo))
    else (Option.bind (f_X_isFarGreater M_f P_f a2 a3) (fun q_25 =>
    (if q_25 = 0 then (if a2 < 0 ∨ 8 ≤ a2.toNatClampNeg then none else (if a3 < 0 ∨ 8 ≤ a3.toNatClampNeg then none else (if (P_f a3.toNatClampNeg) ≤ (P_f a2.toNatClampNeg) then (if a2 < 0 ∨ 8 ≤ a2.toNatClampNeg then none else (if a3 < 0 ∨ 8 ≤ a3.toNatClampNeg then none else (if a2 < 0 ∨ 8 ≤ a2.toNatClampNeg then none else (if a3 < 0 ∨ 8 ≤ a3.toNatClampNeg then none else (Option.bind (f_X_leftAfter (jabs (M_f a2.toNatClampNeg)) (jabs (M_f a3.toNatClampNeg)) ((P_f a2.toNatClampNeg) - (P_f a3.toNatClampNeg))) (fun q_101 =>
    (if a2 < 0 ∨ 8 ≤ a2.toNatClampNeg then none else (if 0 ≤ (lg_cmp (M_f a2.toNatClampNeg) (0 : Int64)) then (f_X_remainder_129 a1 a3 q_101 X_lo X_ro X_rc M_f P_f E1_sg E1_hi E1_lo E1_pl E1_mo)
    else (f_X_remainder_129 a1 a3 (-q_101) X_lo X_ro X_rc M_f P_f E1_sg E1_hi E1_lo E1_pl E1_mo)))))))))
    else (if a2 < 0 ∨ 8 ≤ a2.toNatClampNeg then none else (if a2 < 0 ∨ 8 ≤ a2.toNatClampNeg then none else (Option.bind (f_E_hold E1_sg E1_hi E1_lo E1_pl E1_mo (M_f a2.toNatClampNeg) (P_f a2.toNatClampNeg)) (fun q_64 =>
    (f_X_remainder_138 a1 X_lo X_ro X_rc M_f P_f q_64.1 q_64.2.1 q_64.2.2.1 q_64.2.2.2.1 q_64.2.2.2.2))))))))
    else (some ((-1 : Int32), X_lo, X_ro, X_rc, M_f, P_f, E1_sg, E1_hi, E1_lo, E1_pl, E1_mo))))))))))
def f_X_copy (X_lo : Int32) (X_ro : Int32) (X_rc : Int32) (M_f : Nat → Int64) (P_f : Nat → Int32) (E1_sg : Int32) (E1_hi : Int64) (E1_lo : Int64) (E1_pl : Int32) (E1_mo : Int32) (a1 : Int32) (a2 : Int32) (a3 : Int32) : Option (Int32 × Int32 × Int32 × Int32 × (Nat → Int64) × (Nat → Int32) × Int32 × Int64 × Int64 × Int32 × Int32) :=
    (Option.bind (f_X_isRegister a1) (fun q_1 =>
    (if q_1 = 0 then (some ((-1 : Int32), X_lo, X_ro, X_rc, M_f, P_f, E1_sg, E1_hi, E1_lo, E1_pl, E1_mo))
    else (Option.bind (f_X_isRegister a2) (fun q_8 =>
    (if q_8 = 0 then (some ((-1 : Int32), X_lo, X_ro, X_rc, M_f, P_f, E1_sg, E1_hi, E1_lo, E1_pl, E1_mo))
    else (if a2 < 0 ∨ 8 ≤ a2.toNatClampNeg then none else (if a2 < 0 ∨ 8 ≤ a2.toNatClampNeg then none else (Option.bind (f_E_hold E1_sg E1_hi E1_lo E1_pl E1_mo (M_f a2.toNatClampNeg) (P_f a2.toNatClampNeg)) (fun q_32 =>
    (Option.bind (f_X_finish X_lo X_ro X_rc M_f P_f q_32.1 q_32.2.1 q_32.2.2.1 q_32.2.2.2.1 q_32.2.2.2.2 a1 a3) (fun q_42 =>
    (some (q_42.1, q_42.2.1, q_42.2.2.1, q_42.2.2.2.1, q_42.2.2.2.2.1, q_42.2.2.2.2.2.1, q_32.1, q_42.2.2.2.2.2.2.1, q_42.2.2.2.2.2.2.2.1, q_42.2.2.2.2.2.2.2.2.1, q_42.2.2.2.2.2.2.2.2.2))))))))))))))
def f_X_scale (X_lo : Int32) (X_ro : Int32) (X_rc : Int32) (M_f : Nat → Int64) (P_f : Nat → Int32) (E1_sg : Int32) (E1_hi : Int64) (E1_lo : Int64) (E1_pl : Int32) (E1_mo : Int32) (a1 : Int32) (a2 : Int32) (a3 : Int32) : Option (Int32 × Int32 × Int32 × Int32 × (Nat → Int64) × (Nat → Int32) × Int32 × Int64 × Int64 × Int32 × Int32) :=
    (Option.bind (f_X_isRegister a1) (fun q_1 =>
    (if q_1 = 0 then (some ((-1 : Int32), X_lo, X_ro, X_rc, M_f, P_f, E1_sg, E1_hi, E1_lo, E1_pl, E1_mo))
    else (Option.bind (f_X_isRegister a2) (fun q_8 =>
    (if q_8 = 0 then (some ((-1 : Int32), X_lo, X_ro, X_rc, M_f, P_f, E1_sg, E1_hi, E1_lo, E1_pl, E1_mo))
    else (if a3 < (-500 : Int32) then (some ((-1 : Int32), X_lo, X_ro, X_rc, M_f, P_f, E1_sg, E1_hi, E1_lo, E1_pl, E1_mo))
    else (if a3 ≤ (500 : Int32) then (if a2 < 0 ∨ 8 ≤ a2.toNatClampNeg then none else (if a2 < 0 ∨ 8 ≤ a2.toNatClampNeg then none else (Option.bind (f_E_hold E1_sg E1_hi E1_lo E1_pl E1_mo (M_f a2.toNatClampNeg) ((P_f a2.toNatClampNeg) + a3)) (fun q_48 =>
    (Option.bind (f_X_finish X_lo X_ro X_rc M_f P_f q_48.1 q_48.2.1 q_48.2.2.1 q_48.2.2.2.1 q_48.2.2.2.2 a1 (0 : Int32)) (fun q_58 =>
    (some (q_58.1, q_58.2.1, q_58.2.2.1, q_58.2.2.2.1, q_58.2.2.2.2.1, q_58.2.2.2.2.2.1, q_48.1, q_58.2.2.2.2.2.2.1, q_58.2.2.2.2.2.2.2.1, q_58.2.2.2.2.2.2.2.2.1, q_58.2.2.2.2.2.2.2.2.2))))))))
    else (some ((-1 : Int32), X_lo, X_ro, X_rc, M_f, P_f, E1_sg, E1_hi, E1_lo, E1_pl, E1_mo))))))))))
def f_X_step_182 (x1 : Int32) (x5 : Int64) (x9 : Int64) (x11 : Int32) (X_lo : Int32) (X_ro : Int32) (X_rc : Int32) (M_f : Nat → Int64) (P_f : Nat → Int32) : Option (Int32 × Int32 × Int32 × Int32 × (Nat → Int64) × (Nat → Int32)) :=
    (if 0 ≤ (lg_cmp x5 (0 : Int64)) then (Option.bind (f_X_put X_lo X_ro X_rc M_f P_f x1 x9 x11 (0 : Int32)) (fun q_202 =>
    (some (q_202.1, q_202.2.1, q_202.2.2.1, q_202.2.2.2.1, q_202.2.2.2.2.1, q_202.2.2.2.2.2))))
    else (Option.bind (f_X_put X_lo X_ro X_rc M_f P_f x1 (-x9) x11 (0 : Int32)) (fun q_202 =>
    (some (q_202.1, q_202.2.1, q_202.2.2.1, q_202.2.2.2.1, q_202.2.2.2.2.1, q_202.2.2.2.2.2)))))
def f_X_step_135 (x1 : Int32) (x2 : Int32) (x5 : Int64) (x9 : Int64) (x11 : Int32) (X_lo : Int32) (X_ro : Int32) (X_rc : Int32) (M_f : Nat → Int64) (P_f : Nat → Int32) : Option (Int32 × Int32 × Int32 × Int32 × (Nat → Int64) × (Nat → Int32)) :=
    (Option.bind (f_J_bitCount x9) (fun q_137 =>
    (if q_137 ≤ (1 : Int32) then (Option.bind (f_X_topOf P_f x2) (fun q_155 =>
    (if q_155 = (-100 : Int32) then (f_X_step_182 x1 x5 (0 : Int64) x11 X_lo X_ro X_rc M_f P_f)
    else (f_X_step_182 x1 x5 (((2 : Int64) * x9) - (1 : Int64)) (x11 + (-1 : Int32)) X_lo X_ro X_rc M_f P_f))))
    else (f_X_step_182 x1 x5 (x9 - (1 : Int64)) x11 X_lo X_ro X_rc M_f P_f))))
def f_X_step_85 (x1 : Int32) (x2 : Int32) (x4 : Int32) (x5 : Int64) (x7 : Int32) (y0 : Int32) (X_lo : Int32) (X_ro : Int32) (X_rc : Int32) (M_f : Nat → Int64) (P_f : Nat → Int32) : Option (Int32 × Int32 × Int32 × Int32 × (Nat → Int64) × (Nat → Int32)) :=
    (if x2 < 0 ∨ 8 ≤ x2.toNatClampNeg then none else (if x7 = 0 then (if x4 = 0 then (f_X_step_135 x1 x2 x5 (jshr (jabs x5) y0) ((P_f x2.toNatClampNeg) + y0) X_lo X_ro X_rc M_f P_f)
    else (Option.bind (f_X_isNarrow M_f x2) (fun q_129 =>
    (if q_129 = 0 then (f_X_step_182 x1 x5 (jshr (jabs x5) y0) ((P_f x2.toNatClampNeg) + y0) X_lo X_ro X_rc M_f P_f)
    else (f_X_step_135 x1 x2 x5 (jshr (jabs x5) y0) ((P_f x2.toNatClampNeg) + y0) X_lo X_ro X_rc M_f P_f)))))
    else (f_X_step_182 x1 x5 ((jshr (jabs x5) y0) + (1 : Int64)) ((P_f x2.toNatClampNeg) + y0) X_lo X_ro X_rc M_f P_f)))
def f_X_step_72 (x1 : Int32) (x2 : Int32) (x4 : Int32) (x5 : Int64) (y0 : Int32) (X_lo : Int32) (X_ro : Int32) (X_rc : Int32) (M_f : Nat → Int64) (P_f : Nat → Int32) : Option (Int32 × Int32 × Int32 × Int32 × (Nat → Int64) × (Nat → Int32)) :=
    (if x4 = 0 then (f_X_step_85 x1 x2 x4 x5 y0 (0 : Int32) X_lo X_ro X_rc M_f P_f)
    else (f_X_step_85 x1 x2 x4 x5 y0 (29 : Int32) X_lo X_ro X_rc M_f P_f))
def f_X_step_64 (x1 : Int32) (x2 : Int32) (x4 : Int32) (x5 : Int64) (y0 : Int32) (y1 : Int32) (X_lo : Int32) (X_ro : Int32) (X_rc : Int32) (M_f : Nat → Int64) (P_f : Nat → Int32) : Option (Int32 × Int32 × Int32 × Int32 × (Nat → Int64) × (Nat → Int32)) :=
    (if y1 = y0 then (f_X_step_72 x1 x2 x4 x5 (1 : Int32) X_lo X_ro X_rc M_f P_f)
    else (f_X_step_72 x1 x2 x4 x5 (0 : Int32) X_lo X_ro X_rc M_f P_f))
def f_X_step (X_lo : Int32) (X_ro : Int32) (X_rc : Int32) (M_f : Nat → Int64) (P_f : Nat → Int32) (a1 : Int32) (a2 : Int32) (a3 : Int32) (a4 : Int32) : Option (Int32 × Int32 × Int32 × Int32 × (Nat → Int64) × (Nat → Int32)) :=
    (Option.bind (f_X_isRegister a1) (fun q_1 =>
    (if q_1 = 0 then (some ((-1 : Int32), X_lo, X_ro, X_rc, M_f, P_f))
    else (Option.bind (f_X_isRegister a2) (fun q_8 =>
    (if q_8 = 0 then (some ((-1 : Int32), X_lo, X_ro, X_rc, M_f, P_f))
    else (if a2 < 0 ∨ 8 ≤ a2.toNatClampNeg then none else (if (lg_cmp (M_f a2.toNatClampNeg) (0 : Int64)) = 0 then (if a3 = 0 then (Option.bind (f_X_put X_lo X_ro X_rc M_f P_f a1 (-1 : Int64) (-100 : Int32) (0 : Int32)) (fun q_47 =>
    (some (q_47.1, q_47.2.1, q_47.2.2.1, q_47.2.2.2.1, q_47.2.2.2.2.1, q_47.2.2.2.2.2))))
    else (Option.bind (f_X_put X_lo X_ro X_rc M_f P_f a1 (1 : Int64) (-100 : Int32) (0 : Int32)) (fun q_47 =>
    (some (q_47.1, q_47.2.1, q_47.2.2.1, q_47.2.2.2.1, q_47.2.2.2.2.1, q_47.2.2.2.2.2)))))
    else (if (lg_cmp (M_f a2.toNatClampNeg) (0 : Int64)) ≤ 0 then (f_X_step_64 a1 a2 a4 (M_f a2.toNatClampNeg) (0 : Int32) a3 X_lo X_ro X_rc M_f P_f)
    else (f_X_step_64 a1 a2 a4 (M_f a2.toNatClampNeg) (1 : Int32) a3 X_lo X_ro X_rc M_f P_f))))))))))
def f_X_cubeRoot (M_f : Nat → Int64) (P_f : Nat → Int32) (E1_sg : Int32) (E1_hi : Int64) (E1_lo : Int64) (E1_pl : Int32) (E1_mo : Int32) (E2_sg : Int32) (E2_hi : Int64) (E2_lo : Int64) (E2_pl : Int32) (E2_mo : Int32) (E3_sg : Int32) (E3_hi : Int64) (E3_lo : Int64) (E3_pl : Int32) (E3_mo : Int32) (a1 : Int32) (a2 : Int32) : Option (Int32 × Int32 × Int64 × Int64 × Int32 × Int32 × Int32 × Int64 × Int64 × Int32 × Int32 × Int32 × Int64 × Int64 × Int32 × Int32) :=
    (Option.bind (f_X_isRegister a1) (fun q_1 =>
    (if q_1 = 0 then (some ((-1 : Int32), E1_sg, E1_hi, E1_lo, E1_pl, E1_mo, E2_sg, E2_hi, E2_lo, E2_pl, E2_mo, E3_sg, E3_hi, E3_lo, E3_pl, E3_mo))
    else (Option.bind (f_X_isRegister a2) (fun q_8 =>
    (if q_8 = 0 then (some ((-1 : Int32), E1_sg, E1_hi, E1_lo, E1_pl, E1_mo, E2_sg, E2_hi, E2_lo, E2_pl, E2_mo, E3_sg, E3_hi, E3_lo, E3_pl, E3_mo))
    else (if a1 < 0 ∨ 8 ≤ a1.toNatClampNeg then none else (Option.bind (f_J_signum (M_f a1.toNatClampNeg)) (fun q_22 =>
    (if a2 < 0 ∨ 8 ≤ a2.toNatClampNeg then none else (Option.bind (f_J_signum (M_f a2.toNatClampNeg)) (fun q_31 =>
    (if q_22 = q_31 then (if a2 < 0 ∨ 8 ≤ a2.toNatClampNeg then none else (if (lg_cmp (M_f a2.toNatClampNeg) (0 : Int64)) = 0 then (some ((1 : Int32), E1_sg, E1_hi, E1_lo, E1_pl, E1_mo, E2_sg, E2_hi, E2_lo, E2_pl, E2_mo, E3_sg, E3_hi, E3_lo, E3_pl, E3_mo))
    else (if a2 < 0 ∨ 8 ≤ a2.toNatClampNeg then none else (if a2 < 0 ∨ 8 ≤ a2.toNatClampNeg then none else (Option.bind (f_X_cubeOrder M_f P_f E1_sg E1_hi E1_lo E1_pl E1_mo E2_sg E2_hi E2_lo E2_pl E2_mo E3_sg E3_hi E3_lo E3_pl E3_mo ((jabs (M_f a2.toNatClampNeg)) - (1 : Int64)) (P_f a2.toNatClampNeg) a1) (fun q_73 =>
    (if 0 ≤ q_73.1 then (some ((0 : Int32), q_73.2.1, q_73.2.2.1, q_73.2.2.2.1, q_73.2.2.2.2.1, q_73.2.2.2.2.2.1, q_73.2.2.2.2.2.2.1, q_73.2.2.2.2.2.2.2.1, q_73.2.2.2.2.2.2.2.2.1, q_73.2.2.2.2.2.2.2.2.2.1, q_73.2.2.2.2.2.2.2.2.2.2.1, q_73.2.2.2.2.2.2.2.2.2.2.2.1, q_73.2.2.2.2.2.2.2.2.2.2.2.2.1, q_73.2.2.2.2.2.2.2.2.2.2.2.2.2.1, q_73.2.2.2.2.2.2.2.2.2.2.2.2.2.2.1, q_73.2.2.2.2.2.2.2.2.2.2.2.2.2.2.2))
    else (if a2 < 0 ∨ 8 ≤ a2.toNatClampNeg then none else (Option.bind (f_X_cubeOrder M_f P_f q_73.2.1 q_73.2.2.1 q_73.2.2.2.1 q_73.2.2.2.2.1 q_73.2.2.2.2.2.1 q_73.2.2.2.2.2.2.1 q_73.2.2.2.2.2.2.2.1 q_73.2.2.2.2.2.2.2.2.1 q_73.2.2.2.2.2.2.2.2.2.1 q_73.2.2.2.2.2.2.2.2.2.2.1 q_73.2.2.2.2.2.2.2.2.2.2.2.1 q_73.2.2.2.2.2.2.2.2.2.2.2.2.1 q_73.2.2.2.2.2.2.2.2.2.2.2.2.2.1 q_73.2.2.2.2.2.2.2.2.2.2.2.2.2.2.1 q_73.2.2.2.2.2.2.2.2.2.2.2.2.2.2.2 ((jabs (M_f a2.toNatClampNeg)) + (1 : Int64)) (P_f a2.toNatClampNeg) a1) (fun q_90 =>
    (if q_90.1 ≤ 0 then (some ((0 : Int32), q_90.2.1, q_90.2.2.1, q_90.2.2.2.1, q_90.2.2.2.2.1, q_90.2.2.2.2.2.1, q_90.2.2.2.2.2.2.1, q_90.2.2.2.2.2.2.2.1, q_90.2.2.2.2.2.2.2.2.1, q_90.2.2.2.2.2.2.2.2.2.1, q_90.2.2.2.2.2.2.2.2.2.2.1, q_90.2.2.2.2.2.2.2.2.2.2.2.1, q_90.2.2.2.2.2.2.2.2.2.2.2.2.1, q_90.2.2.2.2.2.2.2.2.2.2.2.2.2.1, q_90.2.2.2.2.2.2.2.2.2.2.2.2.2.2.1, q_90.2.2.2.2.2.2.2.2.2.2.2.2.2.2.2))
    else (some ((1 : Int32), q_90.2.1, q_90.2.2.1, q_90.2.2.2.1, q_90.2.2.2.2.1, q_90.2.2.2.2.2.1, q_90.2.2.2.2.2.2.1, q_90.2.2.2.2.2.2.2.1, q_90.2.2.2.2.2.2.2.2.1, q_90.2.2.2.2.2.2.2.2.2.1, q_90.2.2.2.2.2.2.2.2.2.2.1, q_90.2.2.2.2.2.2.2.2.2.2.2.1, q_90.2.2.2.2.2.2.2.2.2.2.2.2.1, q_90.2.2.2.2.2.2.2.2.2.2.2.2.2.1, q_90.2.2.2.2.2.2.2.2.2.2.2.2.2.2.1, q_90.2.2.2.2.2.2.2.2.2.2.2.2.2.2.2)))))))))))))
    else (some ((0 : Int32), E1_sg, E1_hi, E1_lo, E1_pl, E1_mo, E2_sg, E2_hi, E2_lo, E2_pl, E2_mo, E3_sg, E3_hi, E3_lo, E3_pl, E3_mo)))))))))))))))
def f_X_compare_97 (x1 : Int32) (x2 : Int32) (M_f : Nat → Int64) (P_f : Nat → Int32) : Option (Int32) :=
    (if x1 < 0 ∨ 8 ≤ x1.toNatClampNeg then none else (if x2 < 0 ∨ 8 ≤ x2.toNatClampNeg then none else (Option.bind (f_X_order (M_f x1.toNatClampNeg) (M_f x2.toNatClampNeg)) (fun q_109 =>
    (some q_109)))))
def f_X_compare (M_f : Nat → Int64) (P_f : Nat → Int32) (a1 : Int32) (a2 : Int32) : Option (Int32) :=
    (Option.bind (f_X_isRegister a1) (fun q_1 =>
    (if q_1 = 0 then (some (-2 : Int32))
    else (Option.bind (f_X_isRegister a2) (fun q_8 =>
    (if q_8 = 0 then (some (-2 : Int32))
    else (if a1 < 0 ∨ 8 ≤ a1.toNatClampNeg then none else (Option.bind (f_J_signum (M_f a1.toNatClampNeg)) (fun q_23 =>
    (if a2 < 0 ∨ 8 ≤ a2.toNatClampNeg then none else (Option.bind (f_J_signum (M_f a2.toNatClampNeg)) (fun q_33 =>
    (if q_23 = q_33 then (if q_23 = 0 then (f_X_compare_97 a1 a2 M_f P_f)
    else (if a1 < 0 ∨ 8 ≤ a1.toNatClampNeg then none else (if a2 < 0 ∨ 8 ≤ a2.toNatClampNeg then none else (if (P_f a1.toNatClampNeg) = (P_f a2.toNatClampNeg) then (f_X_compare_97 a1 a2 M_f P_f)
    else (if a1 < 0 ∨ 8 ≤ a1.toNatClampNeg then none else (if a2 < 0 ∨ 8 ≤ a2.toNatClampNeg then none else (if (P_f a2.toNatClampNeg) ≤ (P_f a1.toNatClampNeg) then (some q_23)
    else (some (-q_23)))))))))
    else (if q_33 ≤ q_23 then (some (1 : Int32))
    else (some (-1 : Int32))))))))))))))))
def f_X_odd (M_f : Nat → Int64) (a1 : Int32) : Option (Int64) :=
    (Option.bind (f_X_isRegister a1) (fun q_1 =>
    (if q_1 = 0 then (some (-4611686018427387904 : Int64))
    else (if a1 < 0 ∨ 8 ≤ a1.toNatClampNeg then none else (if (lg_cmp (M_f a1.toNatClampNeg) (0 : Int64)) = 0 then (some (0 : Int64))
    else (if a1 < 0 ∨ 8 ≤ a1.toNatClampNeg then none else (if a1 < 0 ∨ 8 ≤ a1.toNatClampNeg then none else (Option.bind (f_J_ntz (M_f a1.toNatClampNeg)) (fun q_38 =>
    (some (jshr (M_f a1.toNatClampNeg) q_38)))))))))))
def f_X_exponent (M_f : Nat → Int64) (P_f : Nat → Int32) (a1 : Int32) : Option (Int64) :=
    (Option.bind (f_X_isRegister a1) (fun q_1 =>
    (if q_1 = 0 then (some (-4611686018427387904 : Int64))
    else (if a1 < 0 ∨ 8 ≤ a1.toNatClampNeg then none else (if (lg_cmp (M_f a1.toNatClampNeg) (0 : Int64)) = 0 then (some (0 : Int64))
    else (if a1 < 0 ∨ 8 ≤ a1.toNatClampNeg then none else (if a1 < 0 ∨ 8 ≤ a1.toNatClampNeg then none else (Option.bind (f_J_ntz (M_f a1.toNatClampNeg)) (fun q_38 =>
    (some (((P_f a1.toNatClampNeg) + q_38).toInt64)))))))))))
def f_X_whole_107 (x3 : Int64) (x5 : Int64) (y0 : Int64) (M_f : Nat → Int64) (P_f : Nat → Int32) : Option (Int64) :=
    (some (jmaxl x3 (jminl x5 y0)))
def f_X_whole_38 (x1 : Int32) (x3 : Int64) (y0 : Int64) (M_f : Nat → Int64) (P_f : Nat → Int32) : Option (Int64) :=
    (Option.bind (f_X_topOf P_f x1) (fun q_42 =>
    (if q_42 < (63 : Int32) then (if x1 < 0 ∨ 8 ≤ x1.toNatClampNeg then none else (if x1 < 0 ∨ 8 ≤ x1.toNatClampNeg then none else (Option.bind (f_X_shifted (jabs (M_f x1.toNatClampNeg)) (P_f x1.toNatClampNeg)) (fun q_83 =>
    (if x1 < 0 ∨ 8 ≤ x1.toNatClampNeg then none else (if 0 ≤ (lg_cmp (M_f x1.toNatClampNeg) (0 : Int64)) then (f_X_whole_107 x3 y0 q_83 M_f P_f)
    else (f_X_whole_107 x3 y0 (-q_83) M_f P_f)))))))
    else (if x1 < 0 ∨ 8 ≤ x1.toNatClampNeg then none else (if 0 ≤ (lg_cmp (M_f x1.toNatClampNeg) (0 : Int64)) then (some y0)
    else (some x3))))))
def f_X_whole_24 (x1 : Int32) (x2 : Int32) (y0 : Int64) (M_f : Nat → Int64) (P_f : Nat → Int32) : Option (Int64) :=
    (if x2 = 0 then (f_X_whole_38 x1 y0 (2147483647 : Int64) M_f P_f)
    else (f_X_whole_38 x1 y0 (9223372036854775807 : Int64) M_f P_f))
def f_X_whole (M_f : Nat → Int64) (P_f : Nat → Int32) (a1 : Int32) (a2 : Int32) : Option (Int64) :=
    (Option.bind (f_X_isRegister a1) (fun q_1 =>
    (if q_1 = 0 then (some (-4611686018427387904 : Int64))
    else (if a2 = 0 then (f_X_whole_24 a1 a2 (-2147483648 : Int64) M_f P_f)
    else (f_X_whole_24 a1 a2 (-9223372036854775808 : Int64) M_f P_f)))))
def f_X_count (X_lo : Int32) (X_ro : Int32) (X_rc : Int32) (M_f : Nat → Int64) (a1 : Int32) : Option (Int32) :=
    (if a1 = (0 : Int32) then (some X_lo) else (if a1 = (1 : Int32) then (Option.bind (f_X_narrowRegisters M_f) (fun q_38 =>
    (some q_38))) else (if a1 = (2 : Int32) then (some X_ro) else (if a1 = (3 : Int32) then (some X_rc) else (some (-100 : Int32))))))
def f_Y_out (a0 : Int32) : Option (Int32) :=
    (if a0 < 0 then (some (1 : Int32))
    else (if a0 ≤ (7 : Int32) then (some (0 : Int32))
    else (some (1 : Int32))))
def f_Y_bits_4 : Nat → (Int32) → (Int64) → Option (Int32)
  | 0, _, _ => none
  | n_ + 1, x2, x3 =>
    (if (lg_cmp x3 (0 : Int64)) ≤ 0 then (some x2)
    else ((f_Y_bits_4 n_) (x2 + (1 : Int32)) (jshr x3 (1 : Int32))))
def f_Y_bits (a0 : Int64) : Option (Int32) :=
    (f_Y_bits_4 1000 (0 : Int32) a0)
def f_Y_inRange (a0 : Int64) (a1 : Int32) : Option (Int32) :=
    (Option.bind (f_Y_bits a0) (fun q_1 =>
    (if ((q_1 - (1 : Int32)) + a1) < (-100 : Int32) then (some (0 : Int32))
    else (if (100 : Int32) ≤ ((q_1 - (1 : Int32)) + a1) then (some (0 : Int32))
    else (some (1 : Int32))))))
def f_Y_size (a0 : Int32) : Option (Int32) :=
    (if a0 = 0 then (some (53 : Int32))
    else (some (24 : Int32)))
def f_Y_narrow (O_f : Nat → Int64) (a1 : Int32) : Option (Int32) :=
    (if a1 < 0 ∨ 8 ≤ a1.toNatClampNeg then none else (if 0 ≤ (lg_cmp (O_f a1.toNatClampNeg) (16777216 : Int64)) then (some (0 : Int32))
    else (some (1 : Int32))))
def f_Y_range (Y_ra : Int32) : Option (Int32 × Int32) :=
    (some ((-2 : Int32), (Y_ra + (1 : Int32))))
def f_Y_store_65 (x1 : Int32) (x2 : Int32) (x6 : Int64) (y0 : Int32) (y1 : Int32) (O_f : Nat → Int64) (N_f : Nat → Int32) (B_f : Nat → Int32) : Option ((Nat → Int64) × (Nat → Int32) × (Nat → Int32)) :=
    (if y1 < 0 ∨ 8 ≤ y1.toNatClampNeg then none else (if x2 = 0 then (if x1 < 0 ∨ 8 ≤ x1.toNatClampNeg then none else (some (O_f, (upd N_f y1.toNatClampNeg y0), (upd B_f x1.toNatClampNeg (vp_nar .boolean (0 : Int32))))))
    else (if (lg_cmp x6 (0 : Int64)) ≤ 0 then (if x1 < 0 ∨ 8 ≤ x1.toNatClampNeg then none else (some (O_f, (upd N_f y1.toNatClampNeg y0), (upd B_f x1.toNatClampNeg (vp_nar .boolean (0 : Int32))))))
    else (if x1 < 0 ∨ 8 ≤ x1.toNatClampNeg then none else (some (O_f, (upd N_f y1.toNatClampNeg y0), (upd B_f x1.toNatClampNeg (vp_nar .boolean (1 : Int32)))))))))
def f_Y_store_39 (x1 : Int32) (x2 : Int32) (x6 : Int64) (x8 : Int32) (O_f : Nat → Int64) (N_f : Nat → Int32) (B_f : Nat → Int32) : Option ((Nat → Int64) × (Nat → Int32) × (Nat → Int32)) :=
    (if x1 < 0 ∨ 8 ≤ x1.toNatClampNeg then none else (if (lg_cmp x6 (0 : Int64)) = 0 then (f_Y_store_65 x1 x2 x6 (0 : Int32) x1 (vp_updL O_f x1.toNatClampNeg x6) N_f B_f)
    else (f_Y_store_65 x1 x2 x6 x8 x1 (vp_updL O_f x1.toNatClampNeg x6) N_f B_f)))
def f_Y_store_7 : Nat → (Int32) → (Int32) → (Int64) → (Int32) → (Nat → Int64) → (Nat → Int32) → (Nat → Int32) → Option ((Nat → Int64) × (Nat → Int32) × (Nat → Int32))
  | 0, _, _, _, _, _, _, _ => none
  | n_ + 1, x1, x2, x6, x8, O_f, N_f, B_f =>
    (if (lg_cmp x6 (0 : Int64)) ≤ 0 then (f_Y_store_39 x1 x2 x6 x8 O_f N_f B_f)
    else (if (lg_cmp (x6 - x6 / (2 : Int64) * (2 : Int64)) (0 : Int64)) = 0 then ((f_Y_store_7 n_) x1 x2 (x6 / (2 : Int64)) (x8 + (1 : Int32)) O_f N_f B_f)
    else (f_Y_store_39 x1 x2 x6 x8 O_f N_f B_f)))
def f_Y_store (O_f : Nat → Int64) (N_f : Nat → Int32) (B_f : Nat → Int32) (a1 : Int32) (a2 : Int32) (a3 : Int64) (a4 : Int32) : Option ((Nat → Int64) × (Nat → Int32) × (Nat → Int32)) :=
    (f_Y_store_7 1000 a1 a2 a3 a4 O_f N_f B_f)
def f_Y_finish_42 (x6 : Int32) (y0 : Int32) (Y_lo : Int32) (Y_ie : Int32) (Y_ra : Int32) (O_f : Nat → Int64) (N_f : Nat → Int32) (B_f : Nat → Int32) : Option (Int32 × Int32 × Int32 × Int32 × (Nat → Int64) × (Nat → Int32) × (Nat → Int32)) :=
    (if x6 = 0 then (some ((0 : Int32), y0, Y_ie, Y_ra, O_f, N_f, B_f))
    else (some ((0 : Int32), y0, (Y_ie + (1 : Int32)), Y_ra, O_f, N_f, B_f)))
def f_Y_finish_20 (x1 : Int32) (x2 : Int32) (x3 : Int64) (x5 : Int32) (x6 : Int32) (Y_lo : Int32) (Y_ie : Int32) (Y_ra : Int32) (O_f : Nat → Int64) (N_f : Nat → Int32) (B_f : Nat → Int32) : Option (Int32 × Int32 × Int32 × Int32 × (Nat → Int64) × (Nat → Int32) × (Nat → Int32)) :=
    (Option.bind (f_Y_store O_f N_f B_f x1 x2 x3 x5) (fun q_26 =>
    (if x2 = 0 then (f_Y_finish_42 x6 x6 Y_lo Y_ie Y_ra q_26.1 q_26.2.1 q_26.2.2)
    else (f_Y_finish_42 x6 (-x6) Y_lo Y_ie Y_ra q_26.1 q_26.2.1 q_26.2.2))))
def f_Y_finish (Y_lo : Int32) (Y_ie : Int32) (Y_ra : Int32) (O_f : Nat → Int64) (N_f : Nat → Int32) (B_f : Nat → Int32) (a1 : Int32) (a2 : Int32) (a3 : Int64) (a4 : Int32) (a5 : Int32) : Option (Int32 × Int32 × Int32 × Int32 × (Nat → Int64) × (Nat → Int32) × (Nat → Int32)) :=
    (if (lg_cmp a3 (0 : Int64)) = 0 then (f_Y_finish_20 a1 a2 a3 a4 a5 Y_lo Y_ie Y_ra O_f N_f B_f)
    else (Option.bind (f_Y_inRange a3 a4) (fun q_9 =>
    (if q_9 = 0 then (Option.bind (f_Y_range Y_ra) (fun q_16 =>
    (some (q_16.1, Y_lo, Y_ie, q_16.2, O_f, N_f, B_f))))
    else (f_Y_finish_20 a1 a2 a3 a4 a5 Y_lo Y_ie Y_ra O_f N_f B_f)))))
def f_Y_round_155 (x4 : Int32) (x11 : Int32) (y0 : Int64) (y1 : Int32) (y2 : Int32) (Y_lo : Int32) (Y_ie : Int32) (Y_ra : Int32) (Y_to : Int64) (Y_te : Int32) (Y_re : Int32) (O_f : Nat → Int64) (N_f : Nat → Int32) (B_f : Nat → Int32) : Option (Int32 × Int32 × Int32 × Int32 × (Nat → Int64) × (Nat → Int32) × (Nat → Int32)) :=
    (if x11 = 0 then (Option.bind (f_Y_finish Y_lo Y_ie Y_ra O_f N_f B_f y2 y1 y0 (Y_te + x4) (-1 : Int32)) (fun q_172 =>
    (some (q_172.1, q_172.2.1, q_172.2.2.1, q_172.2.2.2.1, q_172.2.2.2.2.1, q_172.2.2.2.2.2.1, q_172.2.2.2.2.2.2))))
    else (Option.bind (f_Y_finish Y_lo Y_ie Y_ra O_f N_f B_f y2 y1 y0 (Y_te + x4) (1 : Int32)) (fun q_172 =>
    (some (q_172.1, q_172.2.1, q_172.2.2.1, q_172.2.2.2.1, q_172.2.2.2.2.1, q_172.2.2.2.2.2.1, q_172.2.2.2.2.2.2)))))
def f_Y_round_138 (x1 : Int32) (x2 : Int32) (x4 : Int32) (x9 : Int64) (x11 : Int32) (Y_lo : Int32) (Y_ie : Int32) (Y_ra : Int32) (Y_to : Int64) (Y_te : Int32) (Y_re : Int32) (O_f : Nat → Int64) (N_f : Nat → Int32) (B_f : Nat → Int32) : Option (Int32 × Int32 × Int32 × Int32 × (Nat → Int64) × (Nat → Int32) × (Nat → Int32)) :=
    (if x11 = 0 then (f_Y_round_155 x4 x11 x9 x2 x1 Y_lo Y_ie Y_ra Y_to Y_te Y_re O_f N_f B_f)
    else (f_Y_round_155 x4 x11 (x9 + (1 : Int64)) x2 x1 Y_lo Y_ie Y_ra Y_to Y_te Y_re O_f N_f B_f))
def f_Y_round_105 (x1 : Int32) (x2 : Int32) (x4 : Int32) (x7 : Int64) (x9 : Int64) (y0 : Int32) (Y_lo : Int32) (Y_ie : Int32) (Y_ra : Int32) (Y_to : Int64) (Y_te : Int32) (Y_re : Int32) (O_f : Nat → Int64) (N_f : Nat → Int32) (B_f : Nat → Int32) : Option (Int32 × Int32 × Int32 × Int32 × (Nat → Int64) × (Nat → Int32) × (Nat → Int32)) :=
    (if (lg_cmp x7 (0 : Int64)) = 0 then (if Y_re = 0 then (Option.bind (f_Y_finish Y_lo Y_ie Y_ra O_f N_f B_f x1 x2 x9 (Y_te + x4) (0 : Int32)) (fun q_134 =>
    (some (q_134.1, q_134.2.1, q_134.2.2.1, q_134.2.2.2.1, q_134.2.2.2.2.1, q_134.2.2.2.2.2.1, q_134.2.2.2.2.2.2))))
    else (f_Y_round_138 x1 x2 x4 x9 y0 Y_lo Y_ie Y_ra Y_to Y_te Y_re O_f N_f B_f))
    else (f_Y_round_138 x1 x2 x4 x9 y0 Y_lo Y_ie Y_ra Y_to Y_te Y_re O_f N_f B_f))
def f_Y_round (Y_lo : Int32) (Y_ie : Int32) (Y_ra : Int32) (Y_to : Int64) (Y_te : Int32) (Y_re : Int32) (O_f : Nat → Int64) (N_f : Nat → Int32) (B_f : Nat → Int32) (a1 : Int32) (a2 : Int32) (a3 : Int32) : Option (Int32 × Int32 × Int32 × Int32 × (Nat → Int64) × (Nat → Int32) × (Nat → Int32)) :=
    (Option.bind (f_Y_bits Y_to) (fun q_4 =>
    (if 0 < (q_4 - a3) then (if 0 < (lg_cmp ((2 : Int64) * (Y_to &&& ((jshl (1 : Int64) (q_4 - a3)) - (1 : Int64)))) (jshl (1 : Int64) (q_4 - a3))) then (f_Y_round_105 a1 a2 (q_4 - a3) (Y_to &&& ((jshl (1 : Int64) (q_4 - a3)) - (1 : Int64))) (jshr Y_to (q_4 - a3)) (1 : Int32) Y_lo Y_ie Y_ra Y_to Y_te Y_re O_f N_f B_f)
    else (if (lg_cmp ((2 : Int64) * (Y_to &&& ((jshl (1 : Int64) (q_4 - a3)) - (1 : Int64)))) (jshl (1 : Int64) (q_4 - a3))) = 0 then (if Y_re = 0 then (if (lg_cmp ((jshr Y_to (q_4 - a3)) - (jshr Y_to (q_4 - a3)) / (2 : Int64) * (2 : Int64)) (1 : Int64)) = 0 then (f_Y_round_105 a1 a2 (q_4 - a3) (Y_to &&& ((jshl (1 : Int64) (q_4 - a3)) - (1 : Int64))) (jshr Y_to (q_4 - a3)) (1 : Int32) Y_lo Y_ie Y_ra Y_to Y_te Y_re O_f N_f B_f)
    else (f_Y_round_105 a1 a2 (q_4 - a3) (Y_to &&& ((jshl (1 : Int64) (q_4 - a3)) - (1 : Int64))) (jshr Y_to (q_4 - a3)) (0 : Int32) Y_lo Y_ie Y_ra Y_to Y_te Y_re O_f N_f B_f))
    else (f_Y_round_105 a1 a2 (q_4 - a3) (Y_to &&& ((jshl (1 : Int64) (q_4 - a3)) - (1 : Int64))) (jshr Y_to (q_4 - a3)) (1 : Int32) Y_lo Y_ie Y_ra Y_to Y_te Y_re O_f N_f B_f))
    else (f_Y_round_105 a1 a2 (q_4 - a3) (Y_to &&& ((jshl (1 : Int64) (q_4 - a3)) - (1 : Int64))) (jshr Y_to (q_4 - a3)) (0 : Int32) Y_lo Y_ie Y_ra Y_to Y_te Y_re O_f N_f B_f)))
    else (Option.bind (f_Y_finish Y_lo Y_ie Y_ra O_f N_f B_f a1 a2 Y_to Y_te (0 : Int32)) (fun q_28 =>
    (some (q_28.1, q_28.2.1, q_28.2.2.1, q_28.2.2.2.1, q_28.2.2.2.2.1, q_28.2.2.2.2.2.1, q_28.2.2.2.2.2.2)))))))
def f_Y_clear_2 : Nat → (Int32) → (Nat → Int32) → Option ((Nat → Int32))
  | 0, _, _ => none
  | n_ + 1, x1, A_f =>
    (if (30 : Int32) ≤ x1 then (some A_f)
    else (if x1 < 0 ∨ 30 ≤ x1.toNatClampNeg then none else ((f_Y_clear_2 n_) (x1 + (1 : Int32)) (upd A_f x1.toNatClampNeg (0 : Int32)))))
def f_Y_clear (A_f : Nat → Int32) : Option ((Nat → Int32)) :=
    (f_Y_clear_2 1000 (0 : Int32) A_f)
def f_Y_addAt_6 : Nat → (Int64) → (Int32) → (Nat → Int32) → Option ((Nat → Int32))
  | 0, _, _, _ => none
  | n_ + 1, x4, x6, A_f =>
    (if (lg_cmp x4 (0 : Int64)) ≤ 0 then (some A_f)
    else (if x6 < 0 ∨ 30 ≤ x6.toNatClampNeg then none else (if x6 < 0 ∨ 30 ≤ x6.toNatClampNeg then none else ((f_Y_addAt_6 n_) (jshr (x4 + (A_f x6.toNatClampNeg).toInt64) (28 : Int32)) (x6 + (1 : Int32)) (upd A_f x6.toNatClampNeg (((x4 + (A_f x6.toNatClampNeg).toInt64) &&& (268435455 : Int64)).toInt32))))))
def f_Y_addAt (A_f : Nat → Int32) (a1 : Int32) (a2 : Int64) : Option ((Nat → Int32)) :=
    (f_Y_addAt_6 1000 a2 a1 A_f)
def f_Y_addShifted (A_f : Nat → Int32) (a1 : Int64) (a2 : Int32) : Option ((Nat → Int32)) :=
    (Option.bind (f_Y_addAt A_f (a2 / (28 : Int32)) (jshl (a1 &&& (268435455 : Int64)) (a2 - a2 / (28 : Int32) * (28 : Int32)))) (fun q_23 =>
    (Option.bind (f_Y_addAt q_23 ((a2 / (28 : Int32)) + (1 : Int32)) (jshl (jshr a1 (28 : Int32)) (a2 - a2 / (28 : Int32) * (28 : Int32)))) (fun q_38 =>
    (some q_38)))))
def f_Y_addProduct (A_f : Nat → Int32) (a1 : Int64) (a2 : Int64) (a3 : Int32) : Option ((Nat → Int32)) :=
    (Option.bind (f_Y_addShifted A_f ((a1 &&& (134217727 : Int64)) * (a2 &&& (134217727 : Int64))) a3) (fun q_34 =>
    (Option.bind (f_Y_addShifted q_34 ((a1 &&& (134217727 : Int64)) * (jshr a2 (27 : Int32))) (a3 + (27 : Int32))) (fun q_48 =>
    (Option.bind (f_Y_addShifted q_48 ((jshr a1 (27 : Int32)) * (a2 &&& (134217727 : Int64))) (a3 + (27 : Int32))) (fun q_62 =>
    (Option.bind (f_Y_addShifted q_62 ((jshr a1 (27 : Int32)) * (jshr a2 (27 : Int32))) (a3 + (54 : Int32))) (fun q_76 =>
    (some q_76)))))))))
def f_Y_compareBig_3 : Nat → (Int32) → (Nat → Int32) → (Nat → Int32) → Option (Int32)
  | 0, _, _, _ => none
  | n_ + 1, x2, A_f, C_f =>
    (if x2 < 0 then (some (0 : Int32))
    else (if x2 < 0 ∨ 30 ≤ x2.toNatClampNeg then none else (if x2 < 0 ∨ 30 ≤ x2.toNatClampNeg then none else (if (A_f x2.toNatClampNeg) = (C_f x2.toNatClampNeg) then ((f_Y_compareBig_3 n_) (x2 + (-1 : Int32)) A_f C_f)
    else (if x2 < 0 ∨ 30 ≤ x2.toNatClampNeg then none else (if x2 < 0 ∨ 30 ≤ x2.toNatClampNeg then none else (if (C_f x2.toNatClampNeg) ≤ (A_f x2.toNatClampNeg) then (some (1 : Int32))
    else (some (-1 : Int32)))))))))
def f_Y_compareBig (A_f : Nat → Int32) (C_f : Nat → Int32) : Option (Int32) :=
    (f_Y_compareBig_3 1000 (29 : Int32) A_f C_f)
def f_Y_takeAway_31 (k_4 : (Int32) → (Int32) → (Nat → Int32) → (Nat → Int32) → Option ((Nat → Int32))) (x3 : Int32) (x4 : Int32) (y0 : Int32) (A_f : Nat → Int32) (C_f : Nat → Int32) : Option ((Nat → Int32)) :=
    (if 0 ≤ x4 then (if x3 < 0 ∨ 30 ≤ x3.toNatClampNeg then none else (k_4 y0 (x3 + (1 : Int32)) (upd A_f x3.toNatClampNeg x4) C_f))
    else (if x3 < 0 ∨ 30 ≤ x3.toNatClampNeg then none else (k_4 y0 (x3 + (1 : Int32)) (upd A_f x3.toNatClampNeg ((x4 + (268435455 : Int32)) + (1 : Int32))) C_f)))
def f_Y_takeAway_4 : Nat → (Int32) → (Int32) → (Nat → Int32) → (Nat → Int32) → Option ((Nat → Int32))
  | 0, _, _, _, _ => none
  | n_ + 1, x2, x3, A_f, C_f =>
    (if (30 : Int32) ≤ x3 then (some A_f)
    else (if x3 < 0 ∨ 30 ≤ x3.toNatClampNeg then none else (if x3 < 0 ∨ 30 ≤ x3.toNatClampNeg then none else (if 0 ≤ (((A_f x3.toNatClampNeg) - (C_f x3.toNatClampNeg)) - x2) then (f_Y_takeAway_31 (f_Y_takeAway_4 n_) x3 (((A_f x3.toNatClampNeg) - (C_f x3.toNatClampNeg)) - x2) (0 : Int32) A_f C_f)
    else (f_Y_takeAway_31 (f_Y_takeAway_4 n_) x3 (((A_f x3.toNatClampNeg) - (C_f x3.toNatClampNeg)) - x2) (1 : Int32) A_f C_f)))))
def f_Y_takeAway (A_f : Nat → Int32) (C_f : Nat → Int32) : Option ((Nat → Int32)) :=
    (f_Y_takeAway_4 1000 (0 : Int32) (0 : Int32) A_f C_f)
def f_Y_takeTop_56 (k_22 : (Int32) → (Int32) → (Int32) → (Int64) → (Int32) → (Int32) → (Nat → Int32) → Option (Int64 × Int32 × Int32)) (x2 : Int32) (x3 : Int32) (x4 : Int32) (x5 : Int32) (Y_to : Int64) (Y_te : Int32) (Y_re : Int32) (A_f : Nat → Int32) : Option (Int64 × Int32 × Int32) :=
    (if (60 : Int32) ≤ x3 then (if x5 = (1 : Int32) then (k_22 x2 x3 (x4 + (-1 : Int32)) Y_to Y_te (1 : Int32) A_f)
    else (k_22 x2 x3 (x4 + (-1 : Int32)) Y_to Y_te Y_re A_f))
    else (k_22 x2 (x3 + (1 : Int32)) (x4 + (-1 : Int32)) (((2 : Int64) * Y_to) + x5.toInt64) (x2 + x4) Y_re A_f))
def f_Y_takeTop_22 : Nat → (Int32) → (Int32) → (Int32) → (Int64) → (Int32) → (Int32) → (Nat → Int32) → Option (Int64 × Int32 × Int32)
  | 0, _, _, _, _, _, _, _ => none
  | n_ + 1, x2, x3, x4, Y_to, Y_te, Y_re, A_f =>
    (if x4 < 0 then (some (Y_to, Y_te, Y_re))
    else (if (x4 / (28 : Int32)) < 0 ∨ 30 ≤ (x4 / (28 : Int32)).toNatClampNeg then none else (if x3 = 0 then (if (((A_f (x4 / (28 : Int32)).toNatClampNeg) >>> ((x4 - x4 / (28 : Int32) * (28 : Int32)) &&& 31)) &&& (1 : Int32)) = 0 then ((f_Y_takeTop_22 n_) x2 x3 (x4 + (-1 : Int32)) Y_to Y_te Y_re A_f)
    else (f_Y_takeTop_56 (f_Y_takeTop_22 n_) x2 x3 x4 (((A_f (x4 / (28 : Int32)).toNatClampNeg) >>> ((x4 - x4 / (28 : Int32) * (28 : Int32)) &&& 31)) &&& (1 : Int32)) Y_to Y_te Y_re A_f))
    else (f_Y_takeTop_56 (f_Y_takeTop_22 n_) x2 x3 x4 (((A_f (x4 / (28 : Int32)).toNatClampNeg) >>> ((x4 - x4 / (28 : Int32) * (28 : Int32)) &&& 31)) &&& (1 : Int32)) Y_to Y_te Y_re A_f))))
def f_Y_takeTop (Y_to : Int64) (Y_te : Int32) (Y_re : Int32) (A_f : Nat → Int32) (a2 : Int32) : Option (Int64 × Int32 × Int32) :=
    (f_Y_takeTop_22 1000 a2 (0 : Int32) (839 : Int32) (0 : Int64) a2 (0 : Int32) A_f)
def f_Y_sum_116 (x1 : Int32) (x4 : Int32) (x5 : Int32) (Y_lo : Int32) (Y_ie : Int32) (Y_ra : Int32) (Y_to : Int64) (Y_te : Int32) (Y_re : Int32) (O_f : Nat → Int64) (N_f : Nat → Int32) (B_f : Nat → Int32) (G_f : Nat → Int32) (K_f : Nat → Int32) : Option (Int32 × Int32 × Int32 × Int32 × Int64 × Int32 × Int32 × (Nat → Int64) × (Nat → Int32) × (Nat → Int32) × (Nat → Int32) × (Nat → Int32)) :=
    (Option.bind (f_Y_takeTop Y_to Y_te Y_re G_f (-320 : Int32)) (fun q_124 =>
    (Option.bind (f_Y_round Y_lo Y_ie Y_ra q_124.1 q_124.2.1 q_124.2.2 O_f N_f B_f x1 x5 x4) (fun q_133 =>
    (some (q_133.1, q_133.2.1, q_133.2.2.1, q_133.2.2.2.1, q_124.1, q_124.2.1, q_124.2.2, q_133.2.2.2.2.1, q_133.2.2.2.2.2.1, q_133.2.2.2.2.2.2, G_f, K_f))))))
def f_Y_sum_86 : Nat → (Int32) → (Int32) → (Int32) → (Int32) → (Int32) → (Int32) → (Int32) → (Int64) → (Int32) → (Int32) → (Nat → Int64) → (Nat → Int32) → (Nat → Int32) → (Nat → Int32) → (Nat → Int32) → Option (Int32 × Int32 × Int32 × Int32 × Int64 × Int32 × Int32 × (Nat → Int64) × (Nat → Int32) × (Nat → Int32) × (Nat → Int32) × (Nat → Int32))
  | 0, _, _, _, _, _, _, _, _, _, _, _, _, _, _, _ => none
  | n_ + 1, x1, x3, x4, x6, Y_lo, Y_ie, Y_ra, Y_to, Y_te, Y_re, O_f, N_f, B_f, G_f, K_f =>
    (if (30 : Int32) ≤ x6 then (f_Y_sum_116 x1 x4 x3 Y_lo Y_ie Y_ra Y_to Y_te Y_re O_f N_f B_f G_f K_f)
    else (if x6 < 0 ∨ 30 ≤ x6.toNatClampNeg then none else (if x6 < 0 ∨ 30 ≤ x6.toNatClampNeg then none else ((f_Y_sum_86 n_) x1 x3 x4 (x6 + (1 : Int32)) Y_lo Y_ie Y_ra Y_to Y_te Y_re O_f N_f B_f (upd G_f x6.toNatClampNeg (K_f x6.toNatClampNeg)) K_f))))
def f_Y_sum_11 : Nat → (Int32) → (Int32) → (Int32) → (Int32) → (Int32) → (Int32) → (Int32) → (Int64) → (Int32) → (Int32) → (Nat → Int64) → (Nat → Int32) → (Nat → Int32) → (Nat → Int32) → (Nat → Int32) → Option (Int32 × Int32 × Int32 × Int32 × Int64 × Int32 × Int32 × (Nat → Int64) × (Nat → Int32) × (Nat → Int32) × (Nat → Int32) × (Nat → Int32))
  | 0, _, _, _, _, _, _, _, _, _, _, _, _, _, _, _ => none
  | n_ + 1, x1, x4, x5, x6, Y_lo, Y_ie, Y_ra, Y_to, Y_te, Y_re, O_f, N_f, B_f, G_f, K_f =>
    (if (30 : Int32) ≤ x6 then (f_Y_sum_116 x1 x4 x5 Y_lo Y_ie Y_ra Y_to Y_te Y_re O_f N_f B_f G_f K_f)
    else (if x6 < 0 ∨ 30 ≤ x6.toNatClampNeg then none else (Option.bind (f_Y_addAt G_f x6 ((K_f x6.toNatClampNeg).toInt64)) (fun q_32 =>
    ((f_Y_sum_11 n_) x1 x4 x5 (x6 + (1 : Int32)) Y_lo Y_ie Y_ra Y_to Y_te Y_re O_f N_f B_f q_32 K_f)))))
def f_Y_sum (Y_lo : Int32) (Y_ie : Int32) (Y_ra : Int32) (Y_to : Int64) (Y_te : Int32) (Y_re : Int32) (O_f : Nat → Int64) (N_f : Nat → Int32) (B_f : Nat → Int32) (G_f : Nat → Int32) (K_f : Nat → Int32) (a1 : Int32) (a2 : Int32) (a3 : Int32) (a4 : Int32) : Option (Int32 × Int32 × Int32 × Int32 × Int64 × Int32 × Int32 × (Nat → Int64) × (Nat → Int32) × (Nat → Int32) × (Nat → Int32) × (Nat → Int32)) :=
    (if a2 = a3 then (f_Y_sum_11 1000 a1 a4 a2 (0 : Int32) Y_lo Y_ie Y_ra Y_to Y_te Y_re O_f N_f B_f G_f K_f)
    else (Option.bind (f_Y_compareBig G_f K_f) (fun q_52 =>
    (if q_52 < 0 then (Option.bind (f_Y_takeAway K_f G_f) (fun q_80 =>
    (f_Y_sum_86 1000 a1 a3 a4 (0 : Int32) Y_lo Y_ie Y_ra Y_to Y_te Y_re O_f N_f B_f G_f q_80)))
    else (Option.bind (f_Y_takeAway G_f K_f) (fun q_66 =>
    (f_Y_sum_116 a1 a4 a2 Y_lo Y_ie Y_ra Y_to Y_te Y_re O_f N_f B_f q_66 K_f)))))))
def f_Y_set_89 (x4 : Int32) (x5 : Int64) (y0 : Int32) (y1 : Int32) (Y_ra : Int32) (O_f : Nat → Int64) (N_f : Nat → Int32) (B_f : Nat → Int32) : Option (Int32 × Int32 × (Nat → Int64) × (Nat → Int32) × (Nat → Int32)) :=
    (Option.bind (f_Y_store O_f N_f B_f y1 y0 x5 x4) (fun q_93 =>
    (some ((0 : Int32), Y_ra, q_93.1, q_93.2.1, q_93.2.2))))
def f_Y_set_76 (x1 : Int32) (x2 : Int64) (x4 : Int32) (x5 : Int64) (Y_ra : Int32) (O_f : Nat → Int64) (N_f : Nat → Int32) (B_f : Nat → Int32) : Option (Int32 × Int32 × (Nat → Int64) × (Nat → Int32) × (Nat → Int32)) :=
    (if 0 ≤ (lg_cmp x2 (0 : Int64)) then (f_Y_set_89 x4 x5 (0 : Int32) x1 Y_ra O_f N_f B_f)
    else (f_Y_set_89 x4 x5 (1 : Int32) x1 Y_ra O_f N_f B_f))
def f_Y_set_53 (x1 : Int32) (x2 : Int64) (x4 : Int32) (y0 : Int64) (Y_ra : Int32) (O_f : Nat → Int64) (N_f : Nat → Int32) (B_f : Nat → Int32) : Option (Int32 × Int32 × (Nat → Int64) × (Nat → Int32) × (Nat → Int32)) :=
    (if (lg_cmp x2 (0 : Int64)) = 0 then (f_Y_set_76 x1 x2 x4 y0 Y_ra O_f N_f B_f)
    else (Option.bind (f_Y_inRange y0 x4) (fun q_65 =>
    (if q_65 = 0 then (Option.bind (f_Y_range Y_ra) (fun q_72 =>
    (some (q_72.1, q_72.2, O_f, N_f, B_f))))
    else (f_Y_set_76 x1 x2 x4 y0 Y_ra O_f N_f B_f)))))
def f_Y_set (Y_ra : Int32) (O_f : Nat → Int64) (N_f : Nat → Int32) (B_f : Nat → Int32) (a1 : Int32) (a2 : Int64) (a3 : Int32) : Option (Int32 × Int32 × (Nat → Int64) × (Nat → Int32) × (Nat → Int32)) :=
    (Option.bind (f_Y_out a1) (fun q_1 =>
    (if q_1 = 0 then (if (lg_cmp a2 (-9007199254740991 : Int64)) < 0 then (some ((-1 : Int32), Y_ra, O_f, N_f, B_f))
    else (if 0 < (lg_cmp a2 (9007199254740991 : Int64)) then (some ((-1 : Int32), Y_ra, O_f, N_f, B_f))
    else (if a3 < (-250 : Int32) then (some ((-1 : Int32), Y_ra, O_f, N_f, B_f))
    else (if a3 ≤ (250 : Int32) then (if 0 ≤ (lg_cmp a2 (0 : Int64)) then (f_Y_set_53 a1 a2 a3 a2 Y_ra O_f N_f B_f)
    else (f_Y_set_53 a1 a2 a3 (-a2) Y_ra O_f N_f B_f))
    else (some ((-1 : Int32), Y_ra, O_f, N_f, B_f))))))
    else (some ((-1 : Int32), Y_ra, O_f, N_f, B_f)))))
def f_Y_refused (O_f : Nat → Int64) (a1 : Int32) (a2 : Int32) (a3 : Int32) (a4 : Int32) : Option (Int32) :=
    (Option.bind (f_Y_out a1) (fun q_1 =>
    (if q_1 = 0 then (Option.bind (f_Y_out a2) (fun q_8 =>
    (if q_8 = 0 then (Option.bind (f_Y_out a3) (fun q_15 =>
    (if q_15 = 0 then (if a4 = 0 then (some (0 : Int32))
    else (Option.bind (f_Y_narrow O_f a2) (fun q_28 =>
    (if q_28 = 0 then (some (1 : Int32))
    else (Option.bind (f_Y_narrow O_f a3) (fun q_36 =>
    (if q_36 = 0 then (some (1 : Int32))
    else (some (0 : Int32)))))))))
    else (some (1 : Int32)))))
    else (some (1 : Int32)))))
    else (some (1 : Int32)))))
def f_Y_addition_98 (x4 : Int32) (y0 : Int32) (y1 : Int32) (y2 : Int32) (Y_lo : Int32) (Y_ie : Int32) (Y_ra : Int32) (Y_to : Int64) (Y_te : Int32) (Y_re : Int32) (O_f : Nat → Int64) (N_f : Nat → Int32) (B_f : Nat → Int32) (G_f : Nat → Int32) (K_f : Nat → Int32) : Option (Int32 × Int32 × Int32 × Int32 × Int64 × Int32 × Int32 × (Nat → Int64) × (Nat → Int32) × (Nat → Int32) × (Nat → Int32) × (Nat → Int32)) :=
    (Option.bind (f_Y_size x4) (fun q_100 =>
    (Option.bind (f_Y_sum Y_lo Y_ie Y_ra Y_to Y_te Y_re O_f N_f B_f G_f K_f y2 y1 y0 q_100) (fun q_103 =>
    (some (q_103.1, q_103.2.1, q_103.2.2.1, q_103.2.2.2.1, q_103.2.2.2.2.1, q_103.2.2.2.2.2.1, q_103.2.2.2.2.2.2.1, q_103.2.2.2.2.2.2.2.1, q_103.2.2.2.2.2.2.2.2.1, q_103.2.2.2.2.2.2.2.2.2.1, q_103.2.2.2.2.2.2.2.2.2.2.1, q_103.2.2.2.2.2.2.2.2.2.2.2))))))
def f_Y_addition (Y_lo : Int32) (Y_ie : Int32) (Y_ra : Int32) (Y_to : Int64) (Y_te : Int32) (Y_re : Int32) (O_f : Nat → Int64) (N_f : Nat → Int32) (B_f : Nat → Int32) (G_f : Nat → Int32) (K_f : Nat → Int32) (a1 : Int32) (a2 : Int32) (a3 : Int32) (a4 : Int32) (a5 : Int32) : Option (Int32 × Int32 × Int32 × Int32 × Int64 × Int32 × Int32 × (Nat → Int64) × (Nat → Int32) × (Nat → Int32) × (Nat → Int32) × (Nat → Int32)) :=
    (Option.bind (f_Y_refused O_f a1 a2 a3 a4) (fun q_6 =>
    (if q_6 = 0 then (Option.bind (f_Y_clear G_f) (fun q_18 =>
    (Option.bind (f_Y_clear K_f) (fun q_25 =>
    (if a2 < 0 ∨ 8 ≤ a2.toNatClampNeg then none else (if a2 < 0 ∨ 8 ≤ a2.toNatClampNeg then none else (Option.bind (f_Y_addShifted q_18 (O_f a2.toNatClampNeg) ((N_f a2.toNatClampNeg) + (320 : Int32))) (fun q_48 =>
    (if a3 < 0 ∨ 8 ≤ a3.toNatClampNeg then none else (if a3 < 0 ∨ 8 ≤ a3.toNatClampNeg then none else (Option.bind (f_Y_addShifted q_25 (O_f a3.toNatClampNeg) ((N_f a3.toNatClampNeg) + (320 : Int32))) (fun q_71 =>
    (if a2 < 0 ∨ 8 ≤ a2.toNatClampNeg then none else (if a3 < 0 ∨ 8 ≤ a3.toNatClampNeg then none else (if (B_f a3.toNatClampNeg) = a5 then (f_Y_addition_98 a4 (0 : Int32) (B_f a2.toNatClampNeg) a1 Y_lo Y_ie Y_ra Y_to Y_te Y_re O_f N_f B_f q_48 q_71)
    else (f_Y_addition_98 a4 (1 : Int32) (B_f a2.toNatClampNeg) a1 Y_lo Y_ie Y_ra Y_to Y_te Y_re O_f N_f B_f q_48 q_71))))))))))))))))
    else (some ((-1 : Int32), Y_lo, Y_ie, Y_ra, Y_to, Y_te, Y_re, O_f, N_f, B_f, G_f, K_f)))))
def f_Y_add (Y_lo : Int32) (Y_ie : Int32) (Y_ra : Int32) (Y_to : Int64) (Y_te : Int32) (Y_re : Int32) (O_f : Nat → Int64) (N_f : Nat → Int32) (B_f : Nat → Int32) (G_f : Nat → Int32) (K_f : Nat → Int32) (a1 : Int32) (a2 : Int32) (a3 : Int32) (a4 : Int32) : Option (Int32 × Int32 × Int32 × Int32 × Int64 × Int32 × Int32 × (Nat → Int64) × (Nat → Int32) × (Nat → Int32) × (Nat → Int32) × (Nat → Int32)) :=
    (Option.bind (f_Y_addition Y_lo Y_ie Y_ra Y_to Y_te Y_re O_f N_f B_f G_f K_f a1 a2 a3 a4 (0 : Int32)) (fun q_7 =>
    (some (q_7.1, q_7.2.1, q_7.2.2.1, q_7.2.2.2.1, q_7.2.2.2.2.1, q_7.2.2.2.2.2.1, q_7.2.2.2.2.2.2.1, q_7.2.2.2.2.2.2.2.1, q_7.2.2.2.2.2.2.2.2.1, q_7.2.2.2.2.2.2.2.2.2.1, q_7.2.2.2.2.2.2.2.2.2.2.1, q_7.2.2.2.2.2.2.2.2.2.2.2))))
def f_Y_subtract (Y_lo : Int32) (Y_ie : Int32) (Y_ra : Int32) (Y_to : Int64) (Y_te : Int32) (Y_re : Int32) (O_f : Nat → Int64) (N_f : Nat → Int32) (B_f : Nat → Int32) (G_f : Nat → Int32) (K_f : Nat → Int32) (a1 : Int32) (a2 : Int32) (a3 : Int32) (a4 : Int32) : Option (Int32 × Int32 × Int32 × Int32 × Int64 × Int32 × Int32 × (Nat → Int64) × (Nat → Int32) × (Nat → Int32) × (Nat → Int32) × (Nat → Int32)) :=
    (Option.bind (f_Y_addition Y_lo Y_ie Y_ra Y_to Y_te Y_re O_f N_f B_f G_f K_f a1 a2 a3 a4 (1 : Int32)) (fun q_7 =>
    (some (q_7.1, q_7.2.1, q_7.2.2.1, q_7.2.2.2.1, q_7.2.2.2.2.1, q_7.2.2.2.2.2.1, q_7.2.2.2.2.2.2.1, q_7.2.2.2.2.2.2.2.1, q_7.2.2.2.2.2.2.2.2.1, q_7.2.2.2.2.2.2.2.2.2.1, q_7.2.2.2.2.2.2.2.2.2.2.1, q_7.2.2.2.2.2.2.2.2.2.2.2))))
def f_Y_fused_100 (x1 : Int32) (x4 : Int32) (x5 : Int32) (y0 : Int32) (Y_lo : Int32) (Y_ie : Int32) (Y_ra : Int32) (Y_to : Int64) (Y_te : Int32) (Y_re : Int32) (O_f : Nat → Int64) (N_f : Nat → Int32) (B_f : Nat → Int32) (G_f : Nat → Int32) (K_f : Nat → Int32) : Option (Int32 × Int32 × Int32 × Int32 × Int64 × Int32 × Int32 × (Nat → Int64) × (Nat → Int32) × (Nat → Int32) × (Nat → Int32) × (Nat → Int32)) :=
    (if x4 < 0 then (Option.bind (f_Y_sum Y_lo Y_ie Y_ra Y_to Y_te Y_re O_f N_f B_f G_f K_f x1 y0 y0 x5) (fun q_125 =>
    (some (q_125.1, q_125.2.1, q_125.2.2.1, q_125.2.2.2.1, q_125.2.2.2.2.1, q_125.2.2.2.2.2.1, q_125.2.2.2.2.2.2.1, q_125.2.2.2.2.2.2.2.1, q_125.2.2.2.2.2.2.2.2.1, q_125.2.2.2.2.2.2.2.2.2.1, q_125.2.2.2.2.2.2.2.2.2.2.1, q_125.2.2.2.2.2.2.2.2.2.2.2))))
    else (if x4 < 0 ∨ 8 ≤ x4.toNatClampNeg then none else (Option.bind (f_Y_sum Y_lo Y_ie Y_ra Y_to Y_te Y_re O_f N_f B_f G_f K_f x1 y0 (B_f x4.toNatClampNeg) x5) (fun q_125 =>
    (some (q_125.1, q_125.2.1, q_125.2.2.1, q_125.2.2.2.1, q_125.2.2.2.2.1, q_125.2.2.2.2.2.1, q_125.2.2.2.2.2.2.1, q_125.2.2.2.2.2.2.2.1, q_125.2.2.2.2.2.2.2.2.1, q_125.2.2.2.2.2.2.2.2.2.1, q_125.2.2.2.2.2.2.2.2.2.2.1, q_125.2.2.2.2.2.2.2.2.2.2.2))))))
def f_Y_fused_80 (x1 : Int32) (x2 : Int32) (x3 : Int32) (x4 : Int32) (x5 : Int32) (Y_lo : Int32) (Y_ie : Int32) (Y_ra : Int32) (Y_to : Int64) (Y_te : Int32) (Y_re : Int32) (O_f : Nat → Int64) (N_f : Nat → Int32) (B_f : Nat → Int32) (G_f : Nat → Int32) (K_f : Nat → Int32) : Option (Int32 × Int32 × Int32 × Int32 × Int64 × Int32 × Int32 × (Nat → Int64) × (Nat → Int32) × (Nat → Int32) × (Nat → Int32) × (Nat → Int32)) :=
    (if x2 < 0 ∨ 8 ≤ x2.toNatClampNeg then none else (if x3 < 0 ∨ 8 ≤ x3.toNatClampNeg then none else (if (B_f x2.toNatClampNeg) = (B_f x3.toNatClampNeg) then (f_Y_fused_100 x1 x4 x5 (0 : Int32) Y_lo Y_ie Y_ra Y_to Y_te Y_re O_f N_f B_f G_f K_f)
    else (f_Y_fused_100 x1 x4 x5 (1 : Int32) Y_lo Y_ie Y_ra Y_to Y_te Y_re O_f N_f B_f G_f K_f))))
def f_Y_fused (Y_lo : Int32) (Y_ie : Int32) (Y_ra : Int32) (Y_to : Int64) (Y_te : Int32) (Y_re : Int32) (O_f : Nat → Int64) (N_f : Nat → Int32) (B_f : Nat → Int32) (G_f : Nat → Int32) (K_f : Nat → Int32) (a1 : Int32) (a2 : Int32) (a3 : Int32) (a4 : Int32) (a5 : Int32) : Option (Int32 × Int32 × Int32 × Int32 × Int64 × Int32 × Int32 × (Nat → Int64) × (Nat → Int32) × (Nat → Int32) × (Nat → Int32) × (Nat → Int32)) :=
    (Option.bind (f_Y_clear G_f) (fun q_4 =>
    (Option.bind (f_Y_clear K_f) (fun q_11 =>
    (if a2 < 0 ∨ 8 ≤ a2.toNatClampNeg then none else (if a3 < 0 ∨ 8 ≤ a3.toNatClampNeg then none else (if a2 < 0 ∨ 8 ≤ a2.toNatClampNeg then none else (if a3 < 0 ∨ 8 ≤ a3.toNatClampNeg then none else (Option.bind (f_Y_addProduct q_4 (O_f a2.toNatClampNeg) (O_f a3.toNatClampNeg) (((N_f a2.toNatClampNeg) + (N_f a3.toNatClampNeg)) + (320 : Int32))) (fun q_47 =>
    (if a4 < 0 then (f_Y_fused_80 a1 a2 a3 a4 a5 Y_lo Y_ie Y_ra Y_to Y_te Y_re O_f N_f B_f q_47 q_11)
    else (if a4 < 0 ∨ 8 ≤ a4.toNatClampNeg then none else (if a4 < 0 ∨ 8 ≤ a4.toNatClampNeg then none else (Option.bind (f_Y_addShifted q_11 (O_f a4.toNatClampNeg) ((N_f a4.toNatClampNeg) + (320 : Int32))) (fun q_77 =>
    (f_Y_fused_80 a1 a2 a3 a4 a5 Y_lo Y_ie Y_ra Y_to Y_te Y_re O_f N_f B_f q_47 q_77))))))))))))))))
def f_Y_multiply (Y_lo : Int32) (Y_ie : Int32) (Y_ra : Int32) (Y_to : Int64) (Y_te : Int32) (Y_re : Int32) (O_f : Nat → Int64) (N_f : Nat → Int32) (B_f : Nat → Int32) (G_f : Nat → Int32) (K_f : Nat → Int32) (a1 : Int32) (a2 : Int32) (a3 : Int32) (a4 : Int32) : Option (Int32 × Int32 × Int32 × Int32 × Int64 × Int32 × Int32 × (Nat → Int64) × (Nat → Int32) × (Nat → Int32) × (Nat → Int32) × (Nat → Int32)) :=
    (Option.bind (f_Y_refused O_f a1 a2 a3 a4) (fun q_6 =>
    (if q_6 = 0 then (Option.bind (f_Y_size a4) (fun q_23 =>
    (Option.bind (f_Y_fused Y_lo Y_ie Y_ra Y_to Y_te Y_re O_f N_f B_f G_f K_f a1 a2 a3 (-1 : Int32) q_23) (fun q_26 =>
    (some (q_26.1, q_26.2.1, q_26.2.2.1, q_26.2.2.2.1, q_26.2.2.2.2.1, q_26.2.2.2.2.2.1, q_26.2.2.2.2.2.2.1, q_26.2.2.2.2.2.2.2.1, q_26.2.2.2.2.2.2.2.2.1, q_26.2.2.2.2.2.2.2.2.2.1, q_26.2.2.2.2.2.2.2.2.2.2.1, q_26.2.2.2.2.2.2.2.2.2.2.2))))))
    else (some ((-1 : Int32), Y_lo, Y_ie, Y_ra, Y_to, Y_te, Y_re, O_f, N_f, B_f, G_f, K_f)))))
def f_Y_fuse (Y_lo : Int32) (Y_ie : Int32) (Y_ra : Int32) (Y_to : Int64) (Y_te : Int32) (Y_re : Int32) (O_f : Nat → Int64) (N_f : Nat → Int32) (B_f : Nat → Int32) (G_f : Nat → Int32) (K_f : Nat → Int32) (a1 : Int32) (a2 : Int32) (a3 : Int32) (a4 : Int32) : Option (Int32 × Int32 × Int32 × Int32 × Int64 × Int32 × Int32 × (Nat → Int64) × (Nat → Int32) × (Nat → Int32) × (Nat → Int32) × (Nat → Int32)) :=
    (Option.bind (f_Y_refused O_f a1 a2 a3 (0 : Int32)) (fun q_5 =>
    (if q_5 = 0 then (Option.bind (f_Y_out a4) (fun q_13 =>
    (if q_13 = 0 then (Option.bind (f_Y_fused Y_lo Y_ie Y_ra Y_to Y_te Y_re O_f N_f B_f G_f K_f a1 a2 a3 a4 (53 : Int32)) (fun q_31 =>
    (some (q_31.1, q_31.2.1, q_31.2.2.1, q_31.2.2.2.1, q_31.2.2.2.2.1, q_31.2.2.2.2.2.1, q_31.2.2.2.2.2.2.1, q_31.2.2.2.2.2.2.2.1, q_31.2.2.2.2.2.2.2.2.1, q_31.2.2.2.2.2.2.2.2.2.1, q_31.2.2.2.2.2.2.2.2.2.2.1, q_31.2.2.2.2.2.2.2.2.2.2.2))))
    else (some ((-1 : Int32), Y_lo, Y_ie, Y_ra, Y_to, Y_te, Y_re, O_f, N_f, B_f, G_f, K_f)))))
    else (some ((-1 : Int32), Y_lo, Y_ie, Y_ra, Y_to, Y_te, Y_re, O_f, N_f, B_f, G_f, K_f)))))
def f_Y_fuseNarrow (Y_lo : Int32) (Y_ie : Int32) (Y_ra : Int32) (Y_to : Int64) (Y_te : Int32) (Y_re : Int32) (O_f : Nat → Int64) (N_f : Nat → Int32) (B_f : Nat → Int32) (G_f : Nat → Int32) (K_f : Nat → Int32) (a1 : Int32) (a2 : Int32) (a3 : Int32) (a4 : Int32) : Option (Int32 × Int32 × Int32 × Int32 × Int64 × Int32 × Int32 × (Nat → Int64) × (Nat → Int32) × (Nat → Int32) × (Nat → Int32) × (Nat → Int32)) :=
    (Option.bind (f_Y_refused O_f a1 a2 a3 (1 : Int32)) (fun q_5 =>
    (if q_5 = 0 then (Option.bind (f_Y_out a4) (fun q_13 =>
    (if q_13 = 0 then (Option.bind (f_Y_narrow O_f a4) (fun q_22 =>
    (if q_22 = 0 then (some ((-1 : Int32), Y_lo, Y_ie, Y_ra, Y_to, Y_te, Y_re, O_f, N_f, B_f, G_f, K_f))
    else (Option.bind (f_Y_fused Y_lo Y_ie Y_ra Y_to Y_te Y_re O_f N_f B_f G_f K_f a1 a2 a3 a4 (24 : Int32)) (fun q_40 =>
    (some (q_40.1, q_40.2.1, q_40.2.2.1, q_40.2.2.2.1, q_40.2.2.2.2.1, q_40.2.2.2.2.2.1, q_40.2.2.2.2.2.2.1, q_40.2.2.2.2.2.2.2.1, q_40.2.2.2.2.2.2.2.2.1, q_40.2.2.2.2.2.2.2.2.2.1, q_40.2.2.2.2.2.2.2.2.2.2.1, q_40.2.2.2.2.2.2.2.2.2.2.2)))))))
    else (some ((-1 : Int32), Y_lo, Y_ie, Y_ra, Y_to, Y_te, Y_re, O_f, N_f, B_f, G_f, K_f)))))
    else (some ((-1 : Int32), Y_lo, Y_ie, Y_ra, Y_to, Y_te, Y_re, O_f, N_f, B_f, G_f, K_f)))))
def f_Y_divide_246 (x4 : Int32) (y0 : Int32) (y1 : Int32) (Y_lo : Int32) (Y_ie : Int32) (Y_ra : Int32) (Y_to : Int64) (Y_te : Int32) (Y_re : Int32) (O_f : Nat → Int64) (N_f : Nat → Int32) (B_f : Nat → Int32) : Option (Int32 × Int32 × Int32 × Int32 × Int64 × Int32 × Int32 × (Nat → Int64) × (Nat → Int32) × (Nat → Int32)) :=
    (Option.bind (f_Y_size x4) (fun q_248 =>
    (Option.bind (f_Y_round Y_lo Y_ie Y_ra Y_to Y_te Y_re O_f N_f B_f y1 y0 q_248) (fun q_251 =>
    (some (q_251.1, q_251.2.1, q_251.2.2.1, q_251.2.2.2.1, Y_to, Y_te, Y_re, q_251.2.2.2.2.1, q_251.2.2.2.2.2.1, q_251.2.2.2.2.2.2))))))
def f_Y_divide_201 (x1 : Int32) (x2 : Int32) (x3 : Int32) (x4 : Int32) (x8 : Int32) (y0 : Int32) (Y_lo : Int32) (Y_ie : Int32) (Y_ra : Int32) (Y_to : Int64) (Y_te : Int32) (Y_re : Int32) (O_f : Nat → Int64) (N_f : Nat → Int32) (B_f : Nat → Int32) : Option (Int32 × Int32 × Int32 × Int32 × Int64 × Int32 × Int32 × (Nat → Int64) × (Nat → Int32) × (Nat → Int32)) :=
    (if y0 = 0 ∨ y0 = 1 then (if x2 < 0 ∨ 8 ≤ x2.toNatClampNeg then none else (if x3 < 0 ∨ 8 ≤ x3.toNatClampNeg then none else (if x2 < 0 ∨ 8 ≤ x2.toNatClampNeg then none else (if x3 < 0 ∨ 8 ≤ x3.toNatClampNeg then none else (if (B_f x2.toNatClampNeg) = (B_f x3.toNatClampNeg) then (f_Y_divide_246 x4 (0 : Int32) x1 Y_lo Y_ie Y_ra Y_to (((N_f x2.toNatClampNeg) - (N_f x3.toNatClampNeg)) + x8) y0 O_f N_f B_f)
    else (f_Y_divide_246 x4 (1 : Int32) x1 Y_lo Y_ie Y_ra Y_to (((N_f x2.toNatClampNeg) - (N_f x3.toNatClampNeg)) + x8) y0 O_f N_f B_f)))))) else none)
def f_Y_divide_165 (x1 : Int32) (x2 : Int32) (x3 : Int32) (x4 : Int32) (x5 : Int64) (x8 : Int32) (Y_lo : Int32) (Y_ie : Int32) (Y_ra : Int32) (Y_to : Int64) (Y_te : Int32) (Y_re : Int32) (O_f : Nat → Int64) (N_f : Nat → Int32) (B_f : Nat → Int32) : Option (Int32 × Int32 × Int32 × Int32 × Int64 × Int32 × Int32 × (Nat → Int64) × (Nat → Int32) × (Nat → Int32)) :=
    (if 0 < (lg_cmp x5 (0 : Int64)) then (f_Y_divide_201 x1 x2 x3 x4 x8 (1 : Int32) Y_lo Y_ie Y_ra Y_to Y_te Y_re O_f N_f B_f)
    else (if x8 ≤ 0 then (f_Y_divide_201 x1 x2 x3 x4 x8 (0 : Int32) Y_lo Y_ie Y_ra Y_to Y_te Y_re O_f N_f B_f)
    else (if x2 < 0 ∨ 8 ≤ x2.toNatClampNeg then none else (if (lg_cmp ((O_f x2.toNatClampNeg) &&& ((jshl (1 : Int64) x8) - (1 : Int64))) (0 : Int64)) ≤ 0 then (f_Y_divide_201 x1 x2 x3 x4 x8 (0 : Int32) Y_lo Y_ie Y_ra Y_to Y_te Y_re O_f N_f B_f)
    else (f_Y_divide_201 x1 x2 x3 x4 x8 (1 : Int32) Y_lo Y_ie Y_ra Y_to Y_te Y_re O_f N_f B_f)))))
def f_Y_divide_144 (k_40 : (Int32) → (Int32) → (Int32) → (Int32) → (Int64) → (Int32) → (Int32) → (Int32) → (Int32) → (Int32) → (Int64) → (Int32) → (Int32) → (Nat → Int64) → (Nat → Int32) → (Nat → Int32) → Option (Int32 × Int32 × Int32 × Int32 × Int64 × Int32 × Int32 × (Nat → Int64) × (Nat → Int32) × (Nat → Int32))) (x1 : Int32) (x2 : Int32) (x3 : Int32) (x4 : Int32) (x5 : Int64) (x7 : Int32) (x8 : Int32) (x9 : Int32) (y0 : Int32) (y1 : Int64) (Y_lo : Int32) (Y_ie : Int32) (Y_ra : Int32) (Y_to : Int64) (Y_te : Int32) (Y_re : Int32) (O_f : Nat → Int64) (N_f : Nat → Int32) (B_f : Nat → Int32) : Option (Int32 × Int32 × Int32 × Int32 × Int64 × Int32 × Int32 × (Nat → Int64) × (Nat → Int32) × (Nat → Int32)) :=
    (if 0 < x7 then (k_40 x1 x2 x3 x4 x5 (x7 + (1 : Int32)) x8 Y_lo Y_ie Y_ra (y1 + y0.toInt64) Y_te Y_re O_f N_f B_f)
    else (if x9 = 0 then (k_40 x1 x2 x3 x4 x5 x7 x8 Y_lo Y_ie Y_ra (y1 + y0.toInt64) Y_te Y_re O_f N_f B_f)
    else (k_40 x1 x2 x3 x4 x5 (x7 + (1 : Int32)) x8 Y_lo Y_ie Y_ra (y1 + y0.toInt64) Y_te Y_re O_f N_f B_f)))
def f_Y_divide_125 (k_40 : (Int32) → (Int32) → (Int32) → (Int32) → (Int64) → (Int32) → (Int32) → (Int32) → (Int32) → (Int32) → (Int64) → (Int32) → (Int32) → (Nat → Int64) → (Nat → Int32) → (Nat → Int32) → Option (Int32 × Int32 × Int32 × Int32 × Int64 × Int32 × Int32 × (Nat → Int64) × (Nat → Int32) × (Nat → Int32))) (x1 : Int32) (x2 : Int32) (x3 : Int32) (x4 : Int32) (x5 : Int64) (x7 : Int32) (x8 : Int32) (x9 : Int32) (Y_lo : Int32) (Y_ie : Int32) (Y_ra : Int32) (Y_to : Int64) (Y_te : Int32) (Y_re : Int32) (O_f : Nat → Int64) (N_f : Nat → Int32) (B_f : Nat → Int32) : Option (Int32 × Int32 × Int32 × Int32 × Int64 × Int32 × Int32 × (Nat → Int64) × (Nat → Int32) × (Nat → Int32)) :=
    (if x9 = 0 then (f_Y_divide_144 k_40 x1 x2 x3 x4 x5 x7 x8 x9 (0 : Int32) ((2 : Int64) * Y_to) Y_lo Y_ie Y_ra Y_to Y_te Y_re O_f N_f B_f)
    else (f_Y_divide_144 k_40 x1 x2 x3 x4 x5 x7 x8 x9 (1 : Int32) ((2 : Int64) * Y_to) Y_lo Y_ie Y_ra Y_to Y_te Y_re O_f N_f B_f))
def f_Y_divide_107 (k_40 : (Int32) → (Int32) → (Int32) → (Int32) → (Int64) → (Int32) → (Int32) → (Int32) → (Int32) → (Int32) → (Int64) → (Int32) → (Int32) → (Nat → Int64) → (Nat → Int32) → (Nat → Int32) → Option (Int32 × Int32 × Int32 × Int32 × Int64 × Int32 × Int32 × (Nat → Int64) × (Nat → Int32) × (Nat → Int32))) (x1 : Int32) (x2 : Int32) (x3 : Int32) (x4 : Int32) (x5 : Int64) (x7 : Int32) (x8 : Int32) (y0 : Int32) (Y_lo : Int32) (Y_ie : Int32) (Y_ra : Int32) (Y_to : Int64) (Y_te : Int32) (Y_re : Int32) (O_f : Nat → Int64) (N_f : Nat → Int32) (B_f : Nat → Int32) : Option (Int32 × Int32 × Int32 × Int32 × Int64 × Int32 × Int32 × (Nat → Int64) × (Nat → Int32) × (Nat → Int32)) :=
    (if y0 = 0 then (f_Y_divide_125 k_40 x1 x2 x3 x4 x5 x7 x8 y0 Y_lo Y_ie Y_ra Y_to Y_te Y_re O_f N_f B_f)
    else (if x3 < 0 ∨ 8 ≤ x3.toNatClampNeg then none else (f_Y_divide_125 k_40 x1 x2 x3 x4 (x5 - (O_f x3.toNatClampNeg)) x7 x8 y0 Y_lo Y_ie Y_ra Y_to Y_te Y_re O_f N_f B_f)))
def f_Y_divide_87 (k_40 : (Int32) → (Int32) → (Int32) → (Int32) → (Int64) → (Int32) → (Int32) → (Int32) → (Int32) → (Int32) → (Int64) → (Int32) → (Int32) → (Nat → Int64) → (Nat → Int32) → (Nat → Int32) → Option (Int32 × Int32 × Int32 × Int32 × Int64 × Int32 × Int32 × (Nat → Int64) × (Nat → Int32) × (Nat → Int32))) (x1 : Int32) (x2 : Int32) (x3 : Int32) (x4 : Int32) (x7 : Int32) (x8 : Int32) (y0 : Int64) (y1 : Int64) (Y_lo : Int32) (Y_ie : Int32) (Y_ra : Int32) (Y_to : Int64) (Y_te : Int32) (Y_re : Int32) (O_f : Nat → Int64) (N_f : Nat → Int32) (B_f : Nat → Int32) : Option (Int32 × Int32 × Int32 × Int32 × Int64 × Int32 × Int32 × (Nat → Int64) × (Nat → Int32) × (Nat → Int32)) :=
    (if x3 < 0 ∨ 8 ≤ x3.toNatClampNeg then none else (if (lg_cmp (y1 + y0) (O_f x3.toNatClampNeg)) < 0 then (f_Y_divide_107 k_40 x1 x2 x3 x4 (y1 + y0) x7 x8 (0 : Int32) Y_lo Y_ie Y_ra Y_to Y_te Y_re O_f N_f B_f)
    else (f_Y_divide_107 k_40 x1 x2 x3 x4 (y1 + y0) x7 x8 (1 : Int32) Y_lo Y_ie Y_ra Y_to Y_te Y_re O_f N_f B_f)))
def f_Y_divide_40 : Nat → (Int32) → (Int32) → (Int32) → (Int32) → (Int64) → (Int32) → (Int32) → (Int32) → (Int32) → (Int32) → (Int64) → (Int32) → (Int32) → (Nat → Int64) → (Nat → Int32) → (Nat → Int32) → Option (Int32 × Int32 × Int32 × Int32 × Int64 × Int32 × Int32 × (Nat → Int64) × (Nat → Int32) × (Nat → Int32))
  | 0, _, _, _, _, _, _, _, _, _, _, _, _, _, _, _, _ => none
  | n_ + 1, x1, x2, x3, x4, x5, x7, x8, Y_lo, Y_ie, Y_ra, Y_to, Y_te, Y_re, O_f, N_f, B_f =>
    (if x2 < 0 ∨ 8 ≤ x2.toNatClampNeg then none else (if (lg_cmp (O_f x2.toNatClampNeg) (0 : Int64)) ≤ 0 then (f_Y_divide_165 x1 x2 x3 x4 x5 x8 Y_lo Y_ie Y_ra Y_to Y_te Y_re O_f N_f B_f)
    else (if (60 : Int32) ≤ x7 then (f_Y_divide_165 x1 x2 x3 x4 x5 x8 Y_lo Y_ie Y_ra Y_to Y_te Y_re O_f N_f B_f)
    else (if (x8 + (-1 : Int32)) < 0 then (f_Y_divide_87 (f_Y_divide_40 n_) x1 x2 x3 x4 x7 (x8 + (-1 : Int32)) (0 : Int64) ((2 : Int64) * x5) Y_lo Y_ie Y_ra Y_to Y_te Y_re O_f N_f B_f)
    else (if x2 < 0 ∨ 8 ≤ x2.toNatClampNeg then none else (f_Y_divide_87 (f_Y_divide_40 n_) x1 x2 x3 x4 x7 (x8 + (-1 : Int32)) ((jshr (O_f x2.toNatClampNeg) (x8 + (-1 : Int32))) &&& (1 : Int64)) ((2 : Int64) * x5) Y_lo Y_ie Y_ra Y_to Y_te Y_re O_f N_f B_f))))))
def f_Y_divide (Y_lo : Int32) (Y_ie : Int32) (Y_ra : Int32) (Y_to : Int64) (Y_te : Int32) (Y_re : Int32) (O_f : Nat → Int64) (N_f : Nat → Int32) (B_f : Nat → Int32) (a1 : Int32) (a2 : Int32) (a3 : Int32) (a4 : Int32) : Option (Int32 × Int32 × Int32 × Int32 × Int64 × Int32 × Int32 × (Nat → Int64) × (Nat → Int32) × (Nat → Int32)) :=
    (Option.bind (f_Y_refused O_f a1 a2 a3 a4) (fun q_6 =>
    (if q_6 = 0 then (if a3 < 0 ∨ 8 ≤ a3.toNatClampNeg then none else (if (lg_cmp (O_f a3.toNatClampNeg) (0 : Int64)) = 0 then (some ((-1 : Int32), Y_lo, Y_ie, Y_ra, Y_to, Y_te, Y_re, O_f, N_f, B_f))
    else (f_Y_divide_40 1000 a1 a2 a3 a4 (0 : Int64) (0 : Int32) (53 : Int32) Y_lo Y_ie Y_ra (0 : Int64) Y_te Y_re O_f N_f B_f)))
    else (some ((-1 : Int32), Y_lo, Y_ie, Y_ra, Y_to, Y_te, Y_re, O_f, N_f, B_f)))))
def f_Y_root_252 (x1 : Int32) (x3 : Int32) (x6 : Int32) (x10 : Int32) (y0 : Int32) (Y_lo : Int32) (Y_ie : Int32) (Y_ra : Int32) (Y_to : Int64) (Y_te : Int32) (Y_re : Int32) (O_f : Nat → Int64) (N_f : Nat → Int32) (B_f : Nat → Int32) : Option (Int32 × Int32 × Int32 × Int32 × Int64 × Int32 × Int32 × (Nat → Int64) × (Nat → Int32) × (Nat → Int32)) :=
    (if y0 = 0 ∨ y0 = 1 then (Option.bind (f_Y_size x3) (fun q_270 =>
    (Option.bind (f_Y_round Y_lo Y_ie Y_ra Y_to ((x6 / (2 : Int32)) + x10) y0 O_f N_f B_f x1 (0 : Int32) q_270) (fun q_273 =>
    (some (q_273.1, q_273.2.1, q_273.2.2.1, q_273.2.2.2.1, Y_to, ((x6 / (2 : Int32)) + x10), y0, q_273.2.2.2.2.1, q_273.2.2.2.2.2.1, q_273.2.2.2.2.2.2)))))) else none)
def f_Y_root_239 (x1 : Int32) (x3 : Int32) (x6 : Int32) (x7 : Int64) (x10 : Int32) (Y_lo : Int32) (Y_ie : Int32) (Y_ra : Int32) (Y_to : Int64) (Y_te : Int32) (Y_re : Int32) (O_f : Nat → Int64) (N_f : Nat → Int32) (B_f : Nat → Int32) : Option (Int32 × Int32 × Int32 × Int32 × Int64 × Int32 × Int32 × (Nat → Int64) × (Nat → Int32) × (Nat → Int32)) :=
    (if (lg_cmp x7 (0 : Int64)) ≤ 0 then (f_Y_root_252 x1 x3 x6 x10 (0 : Int32) Y_lo Y_ie Y_ra Y_to Y_te Y_re O_f N_f B_f)
    else (f_Y_root_252 x1 x3 x6 x10 (1 : Int32) Y_lo Y_ie Y_ra Y_to Y_te Y_re O_f N_f B_f))
def f_Y_root_218 (k_114 : (Int32) → (Int32) → (Int64) → (Int32) → (Int64) → (Int32) → (Int32) → (Int32) → (Int32) → (Int32) → (Int64) → (Int32) → (Int32) → (Nat → Int64) → (Nat → Int32) → (Nat → Int32) → Option (Int32 × Int32 × Int32 × Int32 × Int64 × Int32 × Int32 × (Nat → Int64) × (Nat → Int32) × (Nat → Int32))) (x1 : Int32) (x3 : Int32) (x4 : Int64) (x6 : Int32) (x7 : Int64) (x9 : Int32) (x10 : Int32) (x13 : Int32) (y0 : Int32) (y1 : Int64) (Y_lo : Int32) (Y_ie : Int32) (Y_ra : Int32) (Y_to : Int64) (Y_te : Int32) (Y_re : Int32) (O_f : Nat → Int64) (N_f : Nat → Int32) (B_f : Nat → Int32) : Option (Int32 × Int32 × Int32 × Int32 × Int64 × Int32 × Int32 × (Nat → Int64) × (Nat → Int32) × (Nat → Int32)) :=
    (if 0 < x9 then (k_114 x1 x3 x4 x6 x7 (x9 + (1 : Int32)) x10 Y_lo Y_ie Y_ra (y1 + y0.toInt64) Y_te Y_re O_f N_f B_f)
    else (if x13 = 0 then (k_114 x1 x3 x4 x6 x7 x9 x10 Y_lo Y_ie Y_ra (y1 + y0.toInt64) Y_te Y_re O_f N_f B_f)
    else (k_114 x1 x3 x4 x6 x7 (x9 + (1 : Int32)) x10 Y_lo Y_ie Y_ra (y1 + y0.toInt64) Y_te Y_re O_f N_f B_f)))
def f_Y_root_199 (k_114 : (Int32) → (Int32) → (Int64) → (Int32) → (Int64) → (Int32) → (Int32) → (Int32) → (Int32) → (Int32) → (Int64) → (Int32) → (Int32) → (Nat → Int64) → (Nat → Int32) → (Nat → Int32) → Option (Int32 × Int32 × Int32 × Int32 × Int64 × Int32 × Int32 × (Nat → Int64) × (Nat → Int32) × (Nat → Int32))) (x1 : Int32) (x3 : Int32) (x4 : Int64) (x6 : Int32) (x7 : Int64) (x9 : Int32) (x10 : Int32) (x13 : Int32) (Y_lo : Int32) (Y_ie : Int32) (Y_ra : Int32) (Y_to : Int64) (Y_te : Int32) (Y_re : Int32) (O_f : Nat → Int64) (N_f : Nat → Int32) (B_f : Nat → Int32) : Option (Int32 × Int32 × Int32 × Int32 × Int64 × Int32 × Int32 × (Nat → Int64) × (Nat → Int32) × (Nat → Int32)) :=
    (if x13 = 0 then (f_Y_root_218 k_114 x1 x3 x4 x6 x7 x9 x10 x13 (0 : Int32) ((2 : Int64) * Y_to) Y_lo Y_ie Y_ra Y_to Y_te Y_re O_f N_f B_f)
    else (f_Y_root_218 k_114 x1 x3 x4 x6 x7 x9 x10 x13 (1 : Int32) ((2 : Int64) * Y_to) Y_lo Y_ie Y_ra Y_to Y_te Y_re O_f N_f B_f))
def f_Y_root_185 (k_114 : (Int32) → (Int32) → (Int64) → (Int32) → (Int64) → (Int32) → (Int32) → (Int32) → (Int32) → (Int32) → (Int64) → (Int32) → (Int32) → (Nat → Int64) → (Nat → Int32) → (Nat → Int32) → Option (Int32 × Int32 × Int32 × Int32 × Int64 × Int32 × Int32 × (Nat → Int64) × (Nat → Int32) × (Nat → Int32))) (x1 : Int32) (x3 : Int32) (x4 : Int64) (x6 : Int32) (x7 : Int64) (x9 : Int32) (x10 : Int32) (x11 : Int64) (y0 : Int32) (Y_lo : Int32) (Y_ie : Int32) (Y_ra : Int32) (Y_to : Int64) (Y_te : Int32) (Y_re : Int32) (O_f : Nat → Int64) (N_f : Nat → Int32) (B_f : Nat → Int32) : Option (Int32 × Int32 × Int32 × Int32 × Int64 × Int32 × Int32 × (Nat → Int64) × (Nat → Int32) × (Nat → Int32)) :=
    (if y0 = 0 then (f_Y_root_199 k_114 x1 x3 x4 x6 x7 x9 x10 y0 Y_lo Y_ie Y_ra Y_to Y_te Y_re O_f N_f B_f)
    else (f_Y_root_199 k_114 x1 x3 x4 x6 (x7 - x11) x9 x10 y0 Y_lo Y_ie Y_ra Y_to Y_te Y_re O_f N_f B_f))
def f_Y_root_157 (k_114 : (Int32) → (Int32) → (Int64) → (Int32) → (Int64) → (Int32) → (Int32) → (Int32) → (Int32) → (Int32) → (Int64) → (Int32) → (Int32) → (Nat → Int64) → (Nat → Int32) → (Nat → Int32) → Option (Int32 × Int32 × Int32 × Int32 × Int64 × Int32 × Int32 × (Nat → Int64) × (Nat → Int32) × (Nat → Int32))) (x1 : Int32) (x3 : Int32) (x4 : Int64) (x6 : Int32) (x9 : Int32) (x10 : Int32) (y0 : Int64) (y1 : Int64) (Y_lo : Int32) (Y_ie : Int32) (Y_ra : Int32) (Y_to : Int64) (Y_te : Int32) (Y_re : Int32) (O_f : Nat → Int64) (N_f : Nat → Int32) (B_f : Nat → Int32) : Option (Int32 × Int32 × Int32 × Int32 × Int64 × Int32 × Int32 × (Nat → Int64) × (Nat → Int32) × (Nat → Int32)) :=
    (if (lg_cmp (y1 + y0) (((4 : Int64) * Y_to) + (1 : Int64))) < 0 then (f_Y_root_185 k_114 x1 x3 x4 x6 (y1 + y0) x9 x10 (((4 : Int64) * Y_to) + (1 : Int64)) (0 : Int32) Y_lo Y_ie Y_ra Y_to Y_te Y_re O_f N_f B_f)
    else (f_Y_root_185 k_114 x1 x3 x4 x6 (y1 + y0) x9 x10 (((4 : Int64) * Y_to) + (1 : Int64)) (1 : Int32) Y_lo Y_ie Y_ra Y_to Y_te Y_re O_f N_f B_f))
def f_Y_root_114 : Nat → (Int32) → (Int32) → (Int64) → (Int32) → (Int64) → (Int32) → (Int32) → (Int32) → (Int32) → (Int32) → (Int64) → (Int32) → (Int32) → (Nat → Int64) → (Nat → Int32) → (Nat → Int32) → Option (Int32 × Int32 × Int32 × Int32 × Int64 × Int32 × Int32 × (Nat → Int64) × (Nat → Int32) × (Nat → Int32))
  | 0, _, _, _, _, _, _, _, _, _, _, _, _, _, _, _, _ => none
  | n_ + 1, x1, x3, x4, x6, x7, x9, x10, Y_lo, Y_ie, Y_ra, Y_to, Y_te, Y_re, O_f, N_f, B_f =>
    (if (lg_cmp x4 (0 : Int64)) ≤ 0 then (f_Y_root_239 x1 x3 x6 x7 x10 Y_lo Y_ie Y_ra Y_to Y_te Y_re O_f N_f B_f)
    else (if (58 : Int32) ≤ x9 then (f_Y_root_239 x1 x3 x6 x7 x10 Y_lo Y_ie Y_ra Y_to Y_te Y_re O_f N_f B_f)
    else (if (x10 + (-1 : Int32)) < 0 then (f_Y_root_157 (f_Y_root_114 n_) x1 x3 x4 x6 x9 (x10 + (-1 : Int32)) (0 : Int64) ((4 : Int64) * x7) Y_lo Y_ie Y_ra Y_to Y_te Y_re O_f N_f B_f)
    else (f_Y_root_157 (f_Y_root_114 n_) x1 x3 x4 x6 x9 (x10 + (-1 : Int32)) ((jshr x4 ((2 : Int32) * (x10 + (-1 : Int32)))) &&& (3 : Int64)) ((4 : Int64) * x7) Y_lo Y_ie Y_ra Y_to Y_te Y_re O_f N_f B_f))))
def f_Y_root_67 (x1 : Int32) (x2 : Int32) (x3 : Int32) (y0 : Int64) (Y_lo : Int32) (Y_ie : Int32) (Y_ra : Int32) (Y_to : Int64) (Y_te : Int32) (Y_re : Int32) (O_f : Nat → Int64) (N_f : Nat → Int32) (B_f : Nat → Int32) : Option (Int32 × Int32 × Int32 × Int32 × Int64 × Int32 × Int32 × (Nat → Int64) × (Nat → Int32) × (Nat → Int32)) :=
    (if x2 < 0 ∨ 8 ≤ x2.toNatClampNeg then none else (if ((N_f x2.toNatClampNeg) - (N_f x2.toNatClampNeg) / (2 : Int32) * (2 : Int32)) = 0 then (if x2 < 0 ∨ 8 ≤ x2.toNatClampNeg then none else (f_Y_root_114 1000 x1 x3 y0 (N_f x2.toNatClampNeg) (0 : Int64) (0 : Int32) (27 : Int32) Y_lo Y_ie Y_ra (0 : Int64) Y_te Y_re O_f N_f B_f))
    else (if x2 < 0 ∨ 8 ≤ x2.toNatClampNeg then none else (f_Y_root_114 1000 x1 x3 y0 ((N_f x2.toNatClampNeg) - (1 : Int32)) (0 : Int64) (0 : Int32) (27 : Int32) Y_lo Y_ie Y_ra (0 : Int64) Y_te Y_re O_f N_f B_f))))
def f_Y_root_37 (x1 : Int32) (x2 : Int32) (x3 : Int32) (Y_lo : Int32) (Y_ie : Int32) (Y_ra : Int32) (Y_to : Int64) (Y_te : Int32) (Y_re : Int32) (O_f : Nat → Int64) (N_f : Nat → Int32) (B_f : Nat → Int32) : Option (Int32 × Int32 × Int32 × Int32 × Int64 × Int32 × Int32 × (Nat → Int64) × (Nat → Int32) × (Nat → Int32)) :=
    (if x2 < 0 ∨ 8 ≤ x2.toNatClampNeg then none else (if ((N_f x2.toNatClampNeg) - (N_f x2.toNatClampNeg) / (2 : Int32) * (2 : Int32)) = 0 then (if x2 < 0 ∨ 8 ≤ x2.toNatClampNeg then none else (f_Y_root_67 x1 x2 x3 (O_f x2.toNatClampNeg) Y_lo Y_ie Y_ra Y_to Y_te Y_re O_f N_f B_f))
    else (if x2 < 0 ∨ 8 ≤ x2.toNatClampNeg then none else (f_Y_root_67 x1 x2 x3 ((2 : Int64) * (O_f x2.toNatClampNeg)) Y_lo Y_ie Y_ra Y_to Y_te Y_re O_f N_f B_f))))
def f_Y_root (Y_lo : Int32) (Y_ie : Int32) (Y_ra : Int32) (Y_to : Int64) (Y_te : Int32) (Y_re : Int32) (O_f : Nat → Int64) (N_f : Nat → Int32) (B_f : Nat → Int32) (a1 : Int32) (a2 : Int32) (a3 : Int32) : Option (Int32 × Int32 × Int32 × Int32 × Int64 × Int32 × Int32 × (Nat → Int64) × (Nat → Int32) × (Nat → Int32)) :=
    (Option.bind (f_Y_out a1) (fun q_1 =>
    (if q_1 = 0 then (Option.bind (f_Y_out a2) (fun q_8 =>
    (if q_8 = 0 then (if a2 < 0 ∨ 8 ≤ a2.toNatClampNeg then none else (if (B_f a2.toNatClampNeg) = 0 then (if a3 = 0 then (f_Y_root_37 a1 a2 a3 Y_lo Y_ie Y_ra Y_to Y_te Y_re O_f N_f B_f)
    else (Option.bind (f_Y_narrow O_f a2) (fun q_29 =>
    (if q_29 = 0 then (some ((-1 : Int32), Y_lo, Y_ie, Y_ra, Y_to, Y_te, Y_re, O_f, N_f, B_f))
    else (f_Y_root_37 a1 a2 a3 Y_lo Y_ie Y_ra Y_to Y_te Y_re O_f N_f B_f)))))
    else (some ((-1 : Int32), Y_lo, Y_ie, Y_ra, Y_to, Y_te, Y_re, O_f, N_f, B_f))))
    else (some ((-1 : Int32), Y_lo, Y_ie, Y_ra, Y_to, Y_te, Y_re, O_f, N_f, B_f)))))
    else (some ((-1 : Int32), Y_lo, Y_ie, Y_ra, Y_to, Y_te, Y_re, O_f, N_f, B_f)))))
def f_Y_compareSizes_30 (x4 : Int64) (x6 : Int64) (O_f : Nat → Int64) (N_f : Nat → Int32) : Option (Int32) :=
    (if (lg_cmp x4 (0 : Int64)) ≤ 0 then (if (lg_cmp x6 (0 : Int64)) ≤ 0 then (some (0 : Int32))
    else (some (-1 : Int32)))
    else (some (1 : Int32)))
def f_Y_compareSizes_133 : Nat → (Int64) → (Int64) → (Int32) → (Int32) → (Nat → Int64) → (Nat → Int32) → Option (Int32)
  | 0, _, _, _, _, _, _ => none
  | n_ + 1, x4, x6, x8, x9, O_f, N_f =>
    (if x9 ≤ x8 then (if 0 ≤ (lg_cmp x4 x6) then (if (lg_cmp x4 x6) ≤ 0 then (some (0 : Int32))
    else (some (1 : Int32)))
    else (some (-1 : Int32)))
    else ((f_Y_compareSizes_133 n_) x4 (x6 * (2 : Int64)) x8 (x9 + (-1 : Int32)) O_f N_f))
def f_Y_compareSizes_112 : Nat → (Int64) → (Int64) → (Int32) → (Int32) → (Nat → Int64) → (Nat → Int32) → Option (Int32)
  | 0, _, _, _, _, _, _ => none
  | n_ + 1, x4, x6, x8, x9, O_f, N_f =>
    (if x8 ≤ x9 then (f_Y_compareSizes_133 1000 x4 x6 x8 x9 O_f N_f)
    else ((f_Y_compareSizes_112 n_) (x4 * (2 : Int64)) x6 (x8 + (-1 : Int32)) x9 O_f N_f))
def f_Y_compareSizes (O_f : Nat → Int64) (N_f : Nat → Int32) (a1 : Int32) (a2 : Int32) (a3 : Int32) : Option (Int32) :=
    (if a1 < 0 ∨ 8 ≤ a1.toNatClampNeg then none else (if a2 < 0 ∨ 8 ≤ a2.toNatClampNeg then none else (if (lg_cmp (O_f a1.toNatClampNeg) (0 : Int64)) = 0 then (f_Y_compareSizes_30 (O_f a1.toNatClampNeg) (O_f a2.toNatClampNeg) O_f N_f)
    else (if (lg_cmp (O_f a2.toNatClampNeg) (0 : Int64)) = 0 then (f_Y_compareSizes_30 (O_f a1.toNatClampNeg) (O_f a2.toNatClampNeg) O_f N_f)
    else (if a1 < 0 ∨ 8 ≤ a1.toNatClampNeg then none else (if a2 < 0 ∨ 8 ≤ a2.toNatClampNeg then none else (Option.bind (f_Y_bits (O_f a1.toNatClampNeg)) (fun q_74 =>
    (Option.bind (f_Y_bits (O_f a2.toNatClampNeg)) (fun q_84 =>
    (if (q_74 + (N_f a1.toNatClampNeg)) = (q_84 + ((N_f a2.toNatClampNeg) + a3)) then (f_Y_compareSizes_112 1000 (O_f a1.toNatClampNeg) (O_f a2.toNatClampNeg) (N_f a1.toNatClampNeg) ((N_f a2.toNatClampNeg) + a3) O_f N_f)
    else (if (q_84 + ((N_f a2.toNatClampNeg) + a3)) ≤ (q_74 + (N_f a1.toNatClampNeg)) then (some (1 : Int32))
    else (some (-1 : Int32))))))))))))))
def f_Y_remainder_154 : Nat → (Int32) → (Int32) → (Int32) → (Int32) → (Int64) → (Int32) → (Int32) → (Int32) → (Int32) → (Nat → Int64) → (Nat → Int32) → (Nat → Int32) → Option (Int32 × Int32 × Int32 × Int32 × (Nat → Int64) × (Nat → Int32) × (Nat → Int32))
  | 0, _, _, _, _, _, _, _, _, _, _, _, _ => none
  | n_ + 1, x1, x2, x3, x4, x5, x7, Y_lo, Y_ie, Y_ra, O_f, N_f, B_f =>
    (if x4 ≤ x7 then (if x2 < 0 ∨ 8 ≤ x2.toNatClampNeg then none else (if x3 < 0 ∨ 8 ≤ x3.toNatClampNeg then none else (Option.bind (f_Y_finish Y_lo Y_ie Y_ra O_f N_f B_f x1 (B_f x2.toNatClampNeg) x5 (N_f x3.toNatClampNeg) (0 : Int32)) (fun q_199 =>
    (some (q_199.1, q_199.2.1, q_199.2.2.1, q_199.2.2.2.1, q_199.2.2.2.2.1, q_199.2.2.2.2.2.1, q_199.2.2.2.2.2.2))))))
    else (if x3 < 0 ∨ 8 ≤ x3.toNatClampNeg then none else (if (O_f x3.toNatClampNeg) = 0 then none else ((f_Y_remainder_154 n_) x1 x2 x3 x4 (((2 : Int64) * x5) - ((2 : Int64) * x5) / (O_f x3.toNatClampNeg) * (O_f x3.toNatClampNeg)) (x7 + (1 : Int32)) Y_lo Y_ie Y_ra O_f N_f B_f))))
def f_Y_remainder (Y_lo : Int32) (Y_ie : Int32) (Y_ra : Int32) (O_f : Nat → Int64) (N_f : Nat → Int32) (B_f : Nat → Int32) (a1 : Int32) (a2 : Int32) (a3 : Int32) : Option (Int32 × Int32 × Int32 × Int32 × (Nat → Int64) × (Nat → Int32) × (Nat → Int32)) :=
    (Option.bind (f_Y_out a1) (fun q_1 =>
    (if q_1 = 0 then (Option.bind (f_Y_out a2) (fun q_8 =>
    (if q_8 = 0 then (Option.bind (f_Y_out a3) (fun q_15 =>
    (if q_15 = 0 then (if a3 < 0 ∨ 8 ≤ a3.toNatClampNeg then none else (if (lg_cmp (O_f a3.toNatClampNeg) (0 : Int64)) = 0 then (some ((-1 : Int32), Y_lo, Y_ie, Y_ra, O_f, N_f, B_f))
    else (Option.bind (f_Y_compareSizes O_f N_f a2 a3 (60 : Int32)) (fun q_37 =>
    (if q_37 < 0 then (Option.bind (f_Y_compareSizes O_f N_f a2 a3 (0 : Int32)) (fun q_49 =>
    (if 0 ≤ q_49 then (if a2 < 0 ∨ 8 ≤ a2.toNatClampNeg then none else (if a3 < 0 ∨ 8 ≤ a3.toNatClampNeg then none else (if 0 ≤ ((N_f a2.toNatClampNeg) - (N_f a3.toNatClampNeg)) then (if a2 < 0 ∨ 8 ≤ a2.toNatClampNeg then none else (if a3 < 0 ∨ 8 ≤ a3.toNatClampNeg then none else (if (O_f a3.toNatClampNeg) = 0 then none else (f_Y_remainder_154 1000 a1 a2 a3 ((N_f a2.toNatClampNeg) - (N_f a3.toNatClampNeg)) ((O_f a2.toNatClampNeg) - (O_f a2.toNatClampNeg) / (O_f a3.toNatClampNeg) * (O_f a3.toNatClampNeg)) (0 : Int32) Y_lo Y_ie Y_ra O_f N_f B_f))))
    else (if a2 < 0 ∨ 8 ≤ a2.toNatClampNeg then none else (if a2 < 0 ∨ 8 ≤ a2.toNatClampNeg then none else (if a3 < 0 ∨ 8 ≤ a3.toNatClampNeg then none else (if (jshl (O_f a3.toNatClampNeg) (-((N_f a2.toNatClampNeg) - (N_f a3.toNatClampNeg)))) = 0 then none else (if a2 < 0 ∨ 8 ≤ a2.toNatClampNeg then none else (Option.bind (f_Y_finish Y_lo Y_ie Y_ra O_f N_f B_f a1 (B_f a2.toNatClampNeg) ((O_f a2.toNatClampNeg) - (O_f a2.toNatClampNeg) / (jshl (O_f a3.toNatClampNeg) (-((N_f a2.toNatClampNeg) - (N_f a3.toNatClampNeg)))) * (jshl (O_f a3.toNatClampNeg) (-((N_f a2.toNatClampNeg) - (N_f a3.toNatClampNeg))))) (N_f a2.toNatClampNeg) (0 : Int32)) (fun q_132 =>
    (some (q_132.1, q_132.2.1, q_132.2.2.1, q_132.2.2.2.1, q_132.2.2.2.2.1, q_132.2.2.2.2.2.1, q_132.2.2.2.2.2.2))))))))))))
    else (if a2 < 0 ∨ 8 ≤ a2.toNatClampNeg then none else (if a2 < 0 ∨ 8 ≤ a2.toNatClampNeg then none else (if a2 < 0 ∨ 8 ≤ a2.toNatClampNeg then none else (Option.bind (f_Y_finish Y_lo Y_ie Y_ra O_f N_f B_f a1 (B_f a2.toNatClampNeg) (O_f a2.toNatClampNeg) (N_f a2.toNatClampNeg) (0 : Int32)) (fun q_76 =>
    (some (q_76.1, q_76.2.1, q_76.2.2.1, q_76.2.2.2.1, q_76.2.2.2.2.1, q_76.2.2.2.2.2.1, q_76.2.2.2.2.2.2))))))))))
    else (some ((-1 : Int32), Y_lo, Y_ie, Y_ra, O_f, N_f, B_f)))))))
    else (some ((-1 : Int32), Y_lo, Y_ie, Y_ra, O_f, N_f, B_f)))))
    else (some ((-1 : Int32), Y_lo, Y_ie, Y_ra, O_f, N_f, B_f)))))
    else (some ((-1 : Int32), Y_lo, Y_ie, Y_ra, O_f, N_f, B_f)))))
def f_Y_copy (Y_lo : Int32) (Y_ie : Int32) (Y_ra : Int32) (Y_to : Int64) (Y_te : Int32) (Y_re : Int32) (O_f : Nat → Int64) (N_f : Nat → Int32) (B_f : Nat → Int32) (a1 : Int32) (a2 : Int32) (a3 : Int32) : Option (Int32 × Int32 × Int32 × Int32 × Int64 × Int32 × Int32 × (Nat → Int64) × (Nat → Int32) × (Nat → Int32)) :=
    (Option.bind (f_Y_out a1) (fun q_1 =>
    (if q_1 = 0 then (Option.bind (f_Y_out a2) (fun q_8 =>
    (if q_8 = 0 then (if a2 < 0 ∨ 8 ≤ a2.toNatClampNeg then none else (if a2 < 0 ∨ 8 ≤ a2.toNatClampNeg then none else (if a2 < 0 ∨ 8 ≤ a2.toNatClampNeg then none else (Option.bind (f_Y_size a3) (fun q_50 =>
    (Option.bind (f_Y_round Y_lo Y_ie Y_ra (O_f a2.toNatClampNeg) (N_f a2.toNatClampNeg) (0 : Int32) O_f N_f B_f a1 (B_f a2.toNatClampNeg) q_50) (fun q_53 =>
    (some (q_53.1, q_53.2.1, q_53.2.2.1, q_53.2.2.2.1, (O_f a2.toNatClampNeg), (N_f a2.toNatClampNeg), (0 : Int32), q_53.2.2.2.2.1, q_53.2.2.2.2.2.1, q_53.2.2.2.2.2.2)))))))))
    else (some ((-1 : Int32), Y_lo, Y_ie, Y_ra, Y_to, Y_te, Y_re, O_f, N_f, B_f)))))
    else (some ((-1 : Int32), Y_lo, Y_ie, Y_ra, Y_to, Y_te, Y_re, O_f, N_f, B_f)))))
def f_Y_scale (Y_lo : Int32) (Y_ie : Int32) (Y_ra : Int32) (O_f : Nat → Int64) (N_f : Nat → Int32) (B_f : Nat → Int32) (a1 : Int32) (a2 : Int32) (a3 : Int32) : Option (Int32 × Int32 × Int32 × Int32 × (Nat → Int64) × (Nat → Int32) × (Nat → Int32)) :=
    (Option.bind (f_Y_out a1) (fun q_1 =>
    (if q_1 = 0 then (Option.bind (f_Y_out a2) (fun q_8 =>
    (if q_8 = 0 then (if a3 < (-500 : Int32) then (some ((-1 : Int32), Y_lo, Y_ie, Y_ra, O_f, N_f, B_f))
    else (if a3 ≤ (500 : Int32) then (if a2 < 0 ∨ 8 ≤ a2.toNatClampNeg then none else (if a2 < 0 ∨ 8 ≤ a2.toNatClampNeg then none else (if a2 < 0 ∨ 8 ≤ a2.toNatClampNeg then none else (Option.bind (f_Y_finish Y_lo Y_ie Y_ra O_f N_f B_f a1 (B_f a2.toNatClampNeg) (O_f a2.toNatClampNeg) ((N_f a2.toNatClampNeg) + a3) (0 : Int32)) (fun q_53 =>
    (some (q_53.1, q_53.2.1, q_53.2.2.1, q_53.2.2.2.1, q_53.2.2.2.2.1, q_53.2.2.2.2.2.1, q_53.2.2.2.2.2.2)))))))
    else (some ((-1 : Int32), Y_lo, Y_ie, Y_ra, O_f, N_f, B_f))))
    else (some ((-1 : Int32), Y_lo, Y_ie, Y_ra, O_f, N_f, B_f)))))
    else (some ((-1 : Int32), Y_lo, Y_ie, Y_ra, O_f, N_f, B_f)))))
def f_Y_toward (Y_lo : Int32) (Y_ie : Int32) (Y_ra : Int32) (O_f : Nat → Int64) (N_f : Nat → Int32) (B_f : Nat → Int32) (a1 : Int32) (a2 : Int32) (a3 : Int64) (a4 : Int32) : Option (Int32 × Int32 × Int32 × Int32 × (Nat → Int64) × (Nat → Int32) × (Nat → Int32)) :=
    (Option.bind (f_Y_inRange a3 a4) (fun q_3 =>
    (if q_3 = 0 then (Option.bind (f_Y_finish Y_lo Y_ie Y_ra O_f N_f B_f a1 (0 : Int32) (0 : Int64) (0 : Int32) (0 : Int32)) (fun q_28 =>
    (some (q_28.1, q_28.2.1, q_28.2.2.1, q_28.2.2.2.1, q_28.2.2.2.2.1, q_28.2.2.2.2.2.1, q_28.2.2.2.2.2.2))))
    else (Option.bind (f_Y_finish Y_lo Y_ie Y_ra O_f N_f B_f a1 a2 a3 a4 (0 : Int32)) (fun q_16 =>
    (some (q_16.1, q_16.2.1, q_16.2.2.1, q_16.2.2.2.1, q_16.2.2.2.2.1, q_16.2.2.2.2.2.1, q_16.2.2.2.2.2.2)))))))
def f_Y_step_109 : Nat → (Int32) → (Int32) → (Int32) → (Int64) → (Int32) → (Int32) → (Int32) → (Int32) → (Int32) → (Int32) → (Nat → Int64) → (Nat → Int32) → (Nat → Int32) → Option (Int32 × Int32 × Int32 × Int32 × (Nat → Int64) × (Nat → Int32) × (Nat → Int32))
  | 0, _, _, _, _, _, _, _, _, _, _, _, _, _ => none
  | n_ + 1, x1, x2, x5, x6, x8, x9, x10, Y_lo, Y_ie, Y_ra, O_f, N_f, B_f =>
    (Option.bind (f_Y_bits x6) (fun q_111 =>
    (if q_111 ≤ x5 then (if x9 = 0 then (if x10 = 0 then (if (lg_cmp x6 (jshl (1 : Int64) (x5 - (1 : Int32)))) = 0 then (if x2 < 0 ∨ 8 ≤ x2.toNatClampNeg then none else (Option.bind (f_Y_toward Y_lo Y_ie Y_ra O_f N_f B_f x1 (B_f x2.toNatClampNeg) (((2 : Int64) * x6) - (1 : Int64)) (x8 - (1 : Int32))) (fun q_225 =>
    (some (q_225.1, q_225.2.1, q_225.2.2.1, q_225.2.2.2.1, q_225.2.2.2.2.1, q_225.2.2.2.2.2.1, q_225.2.2.2.2.2.2)))))
    else (if x2 < 0 ∨ 8 ≤ x2.toNatClampNeg then none else (Option.bind (f_Y_toward Y_lo Y_ie Y_ra O_f N_f B_f x1 (B_f x2.toNatClampNeg) (x6 - (1 : Int64)) x8) (fun q_243 =>
    (some (q_243.1, q_243.2.1, q_243.2.2.1, q_243.2.2.2.1, q_243.2.2.2.2.1, q_243.2.2.2.2.2.1, q_243.2.2.2.2.2.2))))))
    else (if x2 < 0 ∨ 8 ≤ x2.toNatClampNeg then none else (Option.bind (f_Y_finish Y_lo Y_ie Y_ra O_f N_f B_f x1 (B_f x2.toNatClampNeg) x6 x8 (0 : Int32)) (fun q_189 =>
    (some (q_189.1, q_189.2.1, q_189.2.2.1, q_189.2.2.2.1, q_189.2.2.2.2.1, q_189.2.2.2.2.2.1, q_189.2.2.2.2.2.2))))))
    else (if x2 < 0 ∨ 8 ≤ x2.toNatClampNeg then none else (Option.bind (f_Y_finish Y_lo Y_ie Y_ra O_f N_f B_f x1 (B_f x2.toNatClampNeg) (x6 + (1 : Int64)) x8 (0 : Int32)) (fun q_167 =>
    (some (q_167.1, q_167.2.1, q_167.2.2.1, q_167.2.2.2.1, q_167.2.2.2.2.1, q_167.2.2.2.2.2.1, q_167.2.2.2.2.2.2))))))
    else (if (lg_cmp (x6 - x6 / (2 : Int64) * (2 : Int64)) (1 : Int64)) = 0 then ((f_Y_step_109 n_) x1 x2 x5 (x6 / (2 : Int64)) (x8 + (1 : Int32)) x9 (1 : Int32) Y_lo Y_ie Y_ra O_f N_f B_f)
    else ((f_Y_step_109 n_) x1 x2 x5 (x6 / (2 : Int64)) (x8 + (1 : Int32)) x9 x10 Y_lo Y_ie Y_ra O_f N_f B_f)))))
def f_Y_step_85 : Nat → (Int32) → (Int32) → (Int32) → (Int64) → (Int32) → (Int32) → (Int32) → (Int32) → (Int32) → (Int32) → (Nat → Int64) → (Nat → Int32) → (Nat → Int32) → Option (Int32 × Int32 × Int32 × Int32 × (Nat → Int64) × (Nat → Int32) × (Nat → Int32))
  | 0, _, _, _, _, _, _, _, _, _, _, _, _, _ => none
  | n_ + 1, x1, x2, x5, x6, x8, x9, x10, Y_lo, Y_ie, Y_ra, O_f, N_f, B_f =>
    (Option.bind (f_Y_bits x6) (fun q_87 =>
    (if x5 ≤ q_87 then (f_Y_step_109 1000 x1 x2 x5 x6 x8 x9 x10 Y_lo Y_ie Y_ra O_f N_f B_f)
    else ((f_Y_step_85 n_) x1 x2 x5 (x6 * (2 : Int64)) (x8 + (-1 : Int32)) x9 x10 Y_lo Y_ie Y_ra O_f N_f B_f))))
def f_Y_step_57 (y0 : Int32) (y1 : Int32) (Y_lo : Int32) (Y_ie : Int32) (Y_ra : Int32) (O_f : Nat → Int64) (N_f : Nat → Int32) (B_f : Nat → Int32) : Option (Int32 × Int32 × Int32 × Int32 × (Nat → Int64) × (Nat → Int32) × (Nat → Int32)) :=
    (Option.bind (f_Y_finish Y_lo Y_ie Y_ra O_f N_f B_f y1 y0 (1 : Int64) (-100 : Int32) (0 : Int32)) (fun q_61 =>
    (some (q_61.1, q_61.2.1, q_61.2.2.1, q_61.2.2.2.1, q_61.2.2.2.2.1, q_61.2.2.2.2.2.1, q_61.2.2.2.2.2.2))))
def f_Y_step (Y_lo : Int32) (Y_ie : Int32) (Y_ra : Int32) (O_f : Nat → Int64) (N_f : Nat → Int32) (B_f : Nat → Int32) (a1 : Int32) (a2 : Int32) (a3 : Int32) (a4 : Int32) : Option (Int32 × Int32 × Int32 × Int32 × (Nat → Int64) × (Nat → Int32) × (Nat → Int32)) :=
    (Option.bind (f_Y_out a1) (fun q_1 =>
    (if q_1 = 0 then (Option.bind (f_Y_out a2) (fun q_8 =>
    (if q_8 = 0 then (Option.bind (f_Y_size a4) (fun q_18 =>
    (if a2 < 0 ∨ 8 ≤ a2.toNatClampNeg then none else (if a2 < 0 ∨ 8 ≤ a2.toNatClampNeg then none else (if (lg_cmp (O_f a2.toNatClampNeg) (0 : Int64)) = 0 then (if a3 = 0 then (f_Y_step_57 (1 : Int32) a1 Y_lo Y_ie Y_ra O_f N_f B_f)
    else (f_Y_step_57 (0 : Int32) a1 Y_lo Y_ie Y_ra O_f N_f B_f))
    else (if a2 < 0 ∨ 8 ≤ a2.toNatClampNeg then none else (if a3 = (B_f a2.toNatClampNeg) then (f_Y_step_85 1000 a1 a2 q_18 (O_f a2.toNatClampNeg) (N_f a2.toNatClampNeg) (0 : Int32) (0 : Int32) Y_lo Y_ie Y_ra O_f N_f B_f)
    else (f_Y_step_85 1000 a1 a2 q_18 (O_f a2.toNatClampNeg) (N_f a2.toNatClampNeg) (1 : Int32) (0 : Int32) Y_lo Y_ie Y_ra O_f N_f B_f))))))))
    else (some ((-1 : Int32), Y_lo, Y_ie, Y_ra, O_f, N_f, B_f)))))
    else (some ((-1 : Int32), Y_lo, Y_ie, Y_ra, O_f, N_f, B_f)))))
def f_Y_cube_27 : Nat → (Int64) → (Int32) → (Int32) → (Nat → Int32) → (Nat → Int32) → Option ((Nat → Int32) × (Nat → Int32))
  | 0, _, _, _, _, _ => none
  | n_ + 1, x1, x3, x4, G_f, K_f =>
    (if (4 : Int32) ≤ x4 then (some (G_f, K_f))
    else (if x4 < 0 ∨ 30 ≤ x4.toNatClampNeg then none else (Option.bind (f_Y_addShifted G_f ((K_f x4.toNatClampNeg).toInt64 * (x1 &&& (134217727 : Int64))) (((28 : Int32) * x4) + x3)) (fun q_58 =>
    (if x4 < 0 ∨ 30 ≤ x4.toNatClampNeg then none else (Option.bind (f_Y_addShifted q_58 ((K_f x4.toNatClampNeg).toInt64 * (jshr x1 (27 : Int32))) ((((28 : Int32) * x4) + (27 : Int32)) + x3)) (fun q_88 =>
    ((f_Y_cube_27 n_) x1 x3 (x4 + (1 : Int32)) q_88 K_f))))))))
def f_Y_cube (G_f : Nat → Int32) (K_f : Nat → Int32) (a1 : Int64) (a2 : Int32) : Option ((Nat → Int32) × (Nat → Int32)) :=
    (Option.bind (f_Y_clear K_f) (fun q_4 =>
    (Option.bind (f_Y_addProduct q_4 a1 a1 (0 : Int32)) (fun q_14 =>
    (Option.bind (f_Y_clear G_f) (fun q_21 =>
    (f_Y_cube_27 1000 a1 a2 (0 : Int32) q_21 q_14)))))))
def f_Y_cubeAgainst_28 (x1 : Int64) (x4 : Int32) (x5 : Int32) (x6 : Int32) (y0 : Int32) (O_f : Nat → Int64) (N_f : Nat → Int32) (G_f : Nat → Int32) (K_f : Nat → Int32) : Option (Int32 × (Nat → Int32) × (Nat → Int32)) :=
    (Option.bind (f_Y_cube G_f K_f x1 (x5 - y0)) (fun q_37 =>
    (Option.bind (f_Y_clear q_37.2) (fun q_44 =>
    (if x4 < 0 ∨ 8 ≤ x4.toNatClampNeg then none else (Option.bind (f_Y_addShifted q_44 (O_f x4.toNatClampNeg) (x6 - y0)) (fun q_63 =>
    (Option.bind (f_Y_compareBig q_37.1 q_63) (fun q_74 =>
    (some (q_74, q_37.1, q_63)))))))))))
def f_Y_cubeAgainst (O_f : Nat → Int64) (N_f : Nat → Int32) (G_f : Nat → Int32) (K_f : Nat → Int32) (a1 : Int64) (a2 : Int32) (a3 : Int32) : Option (Int32 × (Nat → Int32) × (Nat → Int32)) :=
    (if a3 < 0 ∨ 8 ≤ a3.toNatClampNeg then none else (if (N_f a3.toNatClampNeg) ≤ ((3 : Int32) * a2) then (f_Y_cubeAgainst_28 a1 a3 ((3 : Int32) * a2) (N_f a3.toNatClampNeg) (N_f a3.toNatClampNeg) O_f N_f G_f K_f)
    else (f_Y_cubeAgainst_28 a1 a3 ((3 : Int32) * a2) (N_f a3.toNatClampNeg) ((3 : Int32) * a2) O_f N_f G_f K_f)))
def f_Y_cubeRoot_87 : Nat → (Int32) → (Int64) → (Int32) → (Nat → Int64) → (Nat → Int32) → (Nat → Int32) → (Nat → Int32) → (Nat → Int32) → Option (Int32 × (Nat → Int32) × (Nat → Int32))
  | 0, _, _, _, _, _, _, _, _ => none
  | n_ + 1, x1, x3, x5, O_f, N_f, B_f, G_f, K_f =>
    (Option.bind (f_Y_bits x3) (fun q_88 =>
    (if (53 : Int32) ≤ q_88 then (Option.bind (f_Y_cubeAgainst O_f N_f G_f K_f (x3 - (1 : Int64)) x5 x1) (fun q_115 =>
    (if 0 ≤ q_115.1 then (some ((0 : Int32), q_115.2.1, q_115.2.2))
    else (Option.bind (f_Y_cubeAgainst O_f N_f q_115.2.1 q_115.2.2 (x3 + (1 : Int64)) x5 x1) (fun q_128 =>
    (if q_128.1 ≤ 0 then (some ((0 : Int32), q_128.2.1, q_128.2.2))
    else (some ((1 : Int32), q_128.2.1, q_128.2.2))))))))
    else ((f_Y_cubeRoot_87 n_) x1 (x3 * (2 : Int64)) (x5 + (-1 : Int32)) O_f N_f B_f G_f K_f))))
def f_Y_cubeRoot (O_f : Nat → Int64) (N_f : Nat → Int32) (B_f : Nat → Int32) (G_f : Nat → Int32) (K_f : Nat → Int32) (a1 : Int32) (a2 : Int32) : Option (Int32 × (Nat → Int32) × (Nat → Int32)) :=
    (Option.bind (f_Y_out a1) (fun q_1 =>
    (if q_1 = 0 then (Option.bind (f_Y_out a2) (fun q_8 =>
    (if q_8 = 0 then (if a2 < 0 ∨ 8 ≤ a2.toNatClampNeg then none else (if (lg_cmp (O_f a2.toNatClampNeg) (0 : Int64)) = 0 then (if a1 < 0 ∨ 8 ≤ a1.toNatClampNeg then none else (if (lg_cmp (O_f a1.toNatClampNeg) (0 : Int64)) = 0 then (some ((1 : Int32), G_f, K_f))
    else (some ((0 : Int32), G_f, K_f))))
    else (if a1 < 0 ∨ 8 ≤ a1.toNatClampNeg then none else (if (lg_cmp (O_f a1.toNatClampNeg) (0 : Int64)) = 0 then (some ((0 : Int32), G_f, K_f))
    else (if a1 < 0 ∨ 8 ≤ a1.toNatClampNeg then none else (if a2 < 0 ∨ 8 ≤ a2.toNatClampNeg then none else (if (B_f a1.toNatClampNeg) = (B_f a2.toNatClampNeg) then (if a2 < 0 ∨ 8 ≤ a2.toNatClampNeg then none else (if a2 < 0 ∨ 8 ≤ a2.toNatClampNeg then none else (f_Y_cubeRoot_87 1000 a1 (O_f a2.toNatClampNeg) (N_f a2.toNatClampNeg) O_f N_f B_f G_f K_f)))
    else (some ((0 : Int32), G_f, K_f)))))))))
    else (some ((-1 : Int32), G_f, K_f)))))
    else (some ((-1 : Int32), G_f, K_f)))))
def f_Y_compare (O_f : Nat → Int64) (N_f : Nat → Int32) (B_f : Nat → Int32) (a1 : Int32) (a2 : Int32) : Option (Int32) :=
    (Option.bind (f_Y_out a1) (fun q_1 =>
    (if q_1 = 0 then (Option.bind (f_Y_out a2) (fun q_8 =>
    (if q_8 = 0 then (if a1 < 0 ∨ 8 ≤ a1.toNatClampNeg then none else (if a2 < 0 ∨ 8 ≤ a2.toNatClampNeg then none else (if (B_f a1.toNatClampNeg) = (B_f a2.toNatClampNeg) then (Option.bind (f_Y_compareSizes O_f N_f a1 a2 (0 : Int32)) (fun q_51 =>
    (if a1 < 0 ∨ 8 ≤ a1.toNatClampNeg then none else (if (B_f a1.toNatClampNeg) = 0 then (some q_51)
    else (some (-q_51))))))
    else (if a1 < 0 ∨ 8 ≤ a1.toNatClampNeg then none else (if (B_f a1.toNatClampNeg) = 0 then (some (1 : Int32))
    else (some (-1 : Int32)))))))
    else (some (-2 : Int32)))))
    else (some (-2 : Int32)))))
def f_Y_odd (O_f : Nat → Int64) (B_f : Nat → Int32) (a1 : Int32) : Option (Int64) :=
    (Option.bind (f_Y_out a1) (fun q_1 =>
    (if q_1 = 0 then (if a1 < 0 ∨ 8 ≤ a1.toNatClampNeg then none else (if (B_f a1.toNatClampNeg) = 0 then (if a1 < 0 ∨ 8 ≤ a1.toNatClampNeg then none else (some (O_f a1.toNatClampNeg)))
    else (if a1 < 0 ∨ 8 ≤ a1.toNatClampNeg then none else (some (-(O_f a1.toNatClampNeg))))))
    else (some (-4611686018427387904 : Int64)))))
def f_Y_exponent (N_f : Nat → Int32) (a1 : Int32) : Option (Int64) :=
    (Option.bind (f_Y_out a1) (fun q_1 =>
    (if q_1 = 0 then (if a1 < 0 ∨ 8 ≤ a1.toNatClampNeg then none else (some ((N_f a1.toNatClampNeg).toInt64)))
    else (some (-4611686018427387904 : Int64)))))
def f_Y_whole_139 (x1 : Int32) (y0 : Int64) (O_f : Nat → Int64) (N_f : Nat → Int32) (B_f : Nat → Int32) : Option (Int64) :=
    (if x1 < 0 ∨ 8 ≤ x1.toNatClampNeg then none else (if (B_f x1.toNatClampNeg) = 0 then (some y0)
    else (some (-y0))))
def f_Y_whole_78 (x1 : Int32) (y0 : Int64) (O_f : Nat → Int64) (N_f : Nat → Int32) (B_f : Nat → Int32) : Option (Int64) :=
    (if x1 < 0 ∨ 8 ≤ x1.toNatClampNeg then none else (if (B_f x1.toNatClampNeg) = 0 then (some y0)
    else (some ((-y0) - (1 : Int64)))))
def f_Y_whole_22 (x1 : Int32) (x2 : Int32) (y0 : Int32) (O_f : Nat → Int64) (N_f : Nat → Int32) (B_f : Nat → Int32) : Option (Int64) :=
    (if x1 < 0 ∨ 8 ≤ x1.toNatClampNeg then none else (Option.bind (f_Y_bits (O_f x1.toNatClampNeg)) (fun q_29 =>
    (if x1 < 0 ∨ 8 ≤ x1.toNatClampNeg then none else (if x1 < 0 ∨ 8 ≤ x1.toNatClampNeg then none else (if (lg_cmp (O_f x1.toNatClampNeg) (0 : Int64)) = 0 then (some (0 : Int64))
    else (if 0 < (q_29 + (N_f x1.toNatClampNeg)) then (if (q_29 + (N_f x1.toNatClampNeg)) ≤ y0 then (if x1 < 0 ∨ 8 ≤ x1.toNatClampNeg then none else (if (N_f x1.toNatClampNeg) < 0 then (if x1 < 0 ∨ 8 ≤ x1.toNatClampNeg then none else (if x1 < 0 ∨ 8 ≤ x1.toNatClampNeg then none else (f_Y_whole_139 x1 (jshr (O_f x1.toNatClampNeg) (-(N_f x1.toNatClampNeg))) O_f N_f B_f)))
    else (if x1 < 0 ∨ 8 ≤ x1.toNatClampNeg then none else (if x1 < 0 ∨ 8 ≤ x1.toNatClampNeg then none else (f_Y_whole_139 x1 (jshl (O_f x1.toNatClampNeg) (N_f x1.toNatClampNeg)) O_f N_f B_f)))))
    else (if x2 = 0 then (f_Y_whole_78 x1 (2147483647 : Int64) O_f N_f B_f)
    else (f_Y_whole_78 x1 (9223372036854775807 : Int64) O_f N_f B_f)))
    else (some (0 : Int64)))))))))
def f_Y_whole (O_f : Nat → Int64) (N_f : Nat → Int32) (B_f : Nat → Int32) (a1 : Int32) (a2 : Int32) : Option (Int64) :=
    (Option.bind (f_Y_out a1) (fun q_1 =>
    (if q_1 = 0 then (if a2 = 0 then (f_Y_whole_22 a1 a2 (31 : Int32) O_f N_f B_f)
    else (f_Y_whole_22 a1 a2 (63 : Int32) O_f N_f B_f))
    else (some (-4611686018427387904 : Int64)))))
def f_Y_count_39 : Nat → (Int32) → (Int32) → (Int32) → (Int32) → (Int32) → (Nat → Int64) → Option (Int32)
  | 0, _, _, _, _, _, _ => none
  | n_ + 1, x2, x3, Y_lo, Y_ie, Y_ra, O_f =>
    (if (8 : Int32) ≤ x3 then (some x2)
    else (Option.bind (f_Y_narrow O_f x3) (fun q_47 =>
    (if q_47 = 0 then ((f_Y_count_39 n_) x2 (x3 + (1 : Int32)) Y_lo Y_ie Y_ra O_f)
    else ((f_Y_count_39 n_) (x2 + (1 : Int32)) (x3 + (1 : Int32)) Y_lo Y_ie Y_ra O_f)))))
def f_Y_count (Y_lo : Int32) (Y_ie : Int32) (Y_ra : Int32) (O_f : Nat → Int64) (a1 : Int32) : Option (Int32) :=
    (if a1 = (0 : Int32) then (some Y_lo) else (if a1 = (1 : Int32) then (f_Y_count_39 1000 (0 : Int32) (0 : Int32) Y_lo Y_ie Y_ra O_f) else (if a1 = (2 : Int32) then (some Y_ie) else (if a1 = (3 : Int32) then (some Y_ra) else (some (-100 : Int32))))))
