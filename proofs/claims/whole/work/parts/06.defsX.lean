noncomputable def f_X10_within (a0 a1 a2 : Int32) : Int32 :=
  (if a0 < a1 then ((0 : Int32)) else (if a2 < a0 then ((0 : Int32)) else ((1 : Int32))))
noncomputable def f_X10_type (a0 : Int32) (F : ZF) (A : ZA) (T : Int64) : Option (Int32 × ZS) :=
  (if (f_X10_within a0 (0 : Int32) (255 : Int32)) = 0 then (some ((-1 : Int32), F, A, T)) else (if (F 1) < (200 : Int32) then (if gok (F 1) 200 = true then (some (((upd F 1 ((F 1) + (1 : Int32))) 1), (upd F 1 ((F 1) + (1 : Int32))), (zst A 12 ((F 1)).toNatClampNeg a0), T)) else none) else (some ((-3 : Int32), F, A, T))))
noncomputable def f_X10_clear (F : ZF) (A : ZA) (T : Int64) : Option (Int32 × ZS) :=
  (some ((F 1), (upd F 1 (0 : Int32)), A, T))
noncomputable def f_X10_isSuspect (a0 : Int32) (F : ZF) (A : ZA) (T : Int64) : Int32 :=
  ((f_X10_within a0 (0 : Int32) ((F 22) - (1 : Int32))))
noncomputable def f_X5_hoursFromTo (a0 a1 : Int32) : Int32 :=
  ((((1 : Int32) <<< ((a1 + (1 : Int32)) &&& 31)) - ((1 : Int32) <<< (a0 &&& 31))))
noncomputable def f_J6_bitCount_0f7a4 (a0 : Int32) : Int32 :=
  (((((((((a0 - ((((a0).toUInt32 >>> (((1 : Int32)).toUInt32 &&& Int32.toUInt32 31)).toInt32) &&& (1431655765 : Int32))) &&& (858993459 : Int32)) + (((((a0 - ((((a0).toUInt32 >>> (((1 : Int32)).toUInt32 &&& Int32.toUInt32 31)).toInt32) &&& (1431655765 : Int32)))).toUInt32 >>> (((2 : Int32)).toUInt32 &&& Int32.toUInt32 31)).toInt32) &&& (858993459 : Int32))) + ((((((a0 - ((((a0).toUInt32 >>> (((1 : Int32)).toUInt32 &&& Int32.toUInt32 31)).toInt32) &&& (1431655765 : Int32))) &&& (858993459 : Int32)) + (((((a0 - ((((a0).toUInt32 >>> (((1 : Int32)).toUInt32 &&& Int32.toUInt32 31)).toInt32) &&& (1431655765 : Int32)))).toUInt32 >>> (((2 : Int32)).toUInt32 &&& Int32.toUInt32 31)).toInt32) &&& (858993459 : Int32)))).toUInt32 >>> (((4 : Int32)).toUInt32 &&& Int32.toUInt32 31)).toInt32)) &&& (252645135 : Int32)) + ((((((((a0 - ((((a0).toUInt32 >>> (((1 : Int32)).toUInt32 &&& Int32.toUInt32 31)).toInt32) &&& (1431655765 : Int32))) &&& (858993459 : Int32)) + (((((a0 - ((((a0).toUInt32 >>> (((1 : Int32)).toUInt32 &&& Int32.toUInt32 31)).toInt32) &&& (1431655765 : Int32)))).toUInt32 >>> (((2 : Int32)).toUInt32 &&& Int32.toUInt32 31)).toInt32) &&& (858993459 : Int32))) + ((((((a0 - ((((a0).toUInt32 >>> (((1 : Int32)).toUInt32 &&& Int32.toUInt32 31)).toInt32) &&& (1431655765 : Int32))) &&& (858993459 : Int32)) + (((((a0 - ((((a0).toUInt32 >>> (((1 : Int32)).toUInt32 &&& Int32.toUInt32 31)).toInt32) &&& (1431655765 : Int32)))).toUInt32 >>> (((2 : Int32)).toUInt32 &&& Int32.toUInt32 31)).toInt32) &&& (858993459 : Int32)))).toUInt32 >>> (((4 : Int32)).toUInt32 &&& Int32.toUInt32 31)).toInt32)) &&& (252645135 : Int32))).toUInt32 >>> (((8 : Int32)).toUInt32 &&& Int32.toUInt32 31)).toInt32)) + (((((((((a0 - ((((a0).toUInt32 >>> (((1 : Int32)).toUInt32 &&& Int32.toUInt32 31)).toInt32) &&& (1431655765 : Int32))) &&& (858993459 : Int32)) + (((((a0 - ((((a0).toUInt32 >>> (((1 : Int32)).toUInt32 &&& Int32.toUInt32 31)).toInt32) &&& (1431655765 : Int32)))).toUInt32 >>> (((2 : Int32)).toUInt32 &&& Int32.toUInt32 31)).toInt32) &&& (858993459 : Int32))) + ((((((a0 - ((((a0).toUInt32 >>> (((1 : Int32)).toUInt32 &&& Int32.toUInt32 31)).toInt32) &&& (1431655765 : Int32))) &&& (858993459 : Int32)) + (((((a0 - ((((a0).toUInt32 >>> (((1 : Int32)).toUInt32 &&& Int32.toUInt32 31)).toInt32) &&& (1431655765 : Int32)))).toUInt32 >>> (((2 : Int32)).toUInt32 &&& Int32.toUInt32 31)).toInt32) &&& (858993459 : Int32)))).toUInt32 >>> (((4 : Int32)).toUInt32 &&& Int32.toUInt32 31)).toInt32)) &&& (252645135 : Int32)) + ((((((((a0 - ((((a0).toUInt32 >>> (((1 : Int32)).toUInt32 &&& Int32.toUInt32 31)).toInt32) &&& (1431655765 : Int32))) &&& (858993459 : Int32)) + (((((a0 - ((((a0).toUInt32 >>> (((1 : Int32)).toUInt32 &&& Int32.toUInt32 31)).toInt32) &&& (1431655765 : Int32)))).toUInt32 >>> (((2 : Int32)).toUInt32 &&& Int32.toUInt32 31)).toInt32) &&& (858993459 : Int32))) + ((((((a0 - ((((a0).toUInt32 >>> (((1 : Int32)).toUInt32 &&& Int32.toUInt32 31)).toInt32) &&& (1431655765 : Int32))) &&& (858993459 : Int32)) + (((((a0 - ((((a0).toUInt32 >>> (((1 : Int32)).toUInt32 &&& Int32.toUInt32 31)).toInt32) &&& (1431655765 : Int32)))).toUInt32 >>> (((2 : Int32)).toUInt32 &&& Int32.toUInt32 31)).toInt32) &&& (858993459 : Int32)))).toUInt32 >>> (((4 : Int32)).toUInt32 &&& Int32.toUInt32 31)).toInt32)) &&& (252645135 : Int32))).toUInt32 >>> (((8 : Int32)).toUInt32 &&& Int32.toUInt32 31)).toInt32))).toUInt32 >>> (((16 : Int32)).toUInt32 &&& Int32.toUInt32 31)).toInt32)) &&& (63 : Int32)))
noncomputable def f_X10_bit (a0 a1 : Int32) : Int32 :=
  (((a0 >>> (a1 &&& 31)) &&& (1 : Int32)))
noncomputable def f_X5_countHours_38 (K23 : Int32 → Int32 → Int32 → ZF → ZA → Int64 → Option ZS) (n : Nat) : Int32 → Int32 → Int32 → Int32 → Int32 → ZF → ZA → Int64 → Option ZS :=
  @Nat.rec (fun _ => Int32 → Int32 → Int32 → Int32 → Int32 → ZF → ZA → Int64 → Option ZS) (fun _ _ _ _ _ _ _ _ => none) (fun _ K38 x2 x3 x4 x5 x6 F A T =>
  (if (F 24) ≤ x6 then (if gok x4 6 = true then (K23 x2 x3 (x4 + (1 : Int32)) F (zst A 16 (x4).toNatClampNeg (f_J6_bitCount_0f7a4 (x5 &&& x3))) T) else none) else (if (f_X10_bit x2 x6) = (1 : Int32) then (if gok x6 8 = true then (if (A 34 (x6).toNatClampNeg) = x4 then (if gok x6 8 = true then (if gok x6 8 = true then (K38 x2 x3 x4 (x5 ||| (f_X5_hoursFromTo (A 36 (x6).toNatClampNeg) (A 37 (x6).toNatClampNeg))) (x6 + (1 : Int32)) F A T) else none) else none) else (K38 x2 x3 x4 x5 (x6 + (1 : Int32)) F A T)) else none) else (K38 x2 x3 x4 x5 (x6 + (1 : Int32)) F A T)))) n
theorem f_X5_countHours_38_s (K23 : Int32 → Int32 → Int32 → ZF → ZA → Int64 → Option ZS) (n : Nat) (x2 x3 x4 x5 x6 : Int32) (F : ZF) (A : ZA) (T : Int64) : f_X5_countHours_38 K23 (n + 1) x2 x3 x4 x5 x6 F A T =
  (if (F 24) ≤ x6 then (if gok x4 6 = true then (K23 x2 x3 (x4 + (1 : Int32)) F (zst A 16 (x4).toNatClampNeg (f_J6_bitCount_0f7a4 (x5 &&& x3))) T) else none) else (if (f_X10_bit x2 x6) = (1 : Int32) then (if gok x6 8 = true then (if (A 34 (x6).toNatClampNeg) = x4 then (if gok x6 8 = true then (if gok x6 8 = true then ((f_X5_countHours_38 K23 n) x2 x3 x4 (x5 ||| (f_X5_hoursFromTo (A 36 (x6).toNatClampNeg) (A 37 (x6).toNatClampNeg))) (x6 + (1 : Int32)) F A T) else none) else none) else ((f_X5_countHours_38 K23 n) x2 x3 x4 x5 (x6 + (1 : Int32)) F A T)) else none) else ((f_X5_countHours_38 K23 n) x2 x3 x4 x5 (x6 + (1 : Int32)) F A T))) := rfl
noncomputable def f_X5_countHours_23 (n : Nat) : Int32 → Int32 → Int32 → ZF → ZA → Int64 → Option ZS :=
  @Nat.rec (fun _ => Int32 → Int32 → Int32 → ZF → ZA → Int64 → Option ZS) (fun _ _ _ _ _ _ => none) (fun _ K23 x2 x3 x4 F A T =>
  (if (F 9) ≤ x4 then (some (F, A, T)) else (f_X5_countHours_38 K23 1000 x2 x3 x4 (0 : Int32) (0 : Int32) F A T))) n
theorem f_X5_countHours_23_s (n : Nat) (x2 x3 x4 : Int32) (F : ZF) (A : ZA) (T : Int64) : f_X5_countHours_23 (n + 1) x2 x3 x4 F A T =
  (if (F 9) ≤ x4 then (some (F, A, T)) else (f_X5_countHours_38 (f_X5_countHours_23 n) 1000 x2 x3 x4 (0 : Int32) (0 : Int32) F A T)) := rfl
noncomputable def f_X5_countHours (a0 : Int32) (F : ZF) (A : ZA) (T : Int64) : Option ZS :=
  (f_X5_countHours_23 1000 a0 (f_X5_hoursFromTo ((upd F 9 (F 22)) 25) ((upd F 9 (F 22)) 26)) (0 : Int32) (upd F 9 (F 22)) A T)
noncomputable def f_X5_heldBy_11 (F : ZF) (A : ZA) (T : Int64) (n : Nat) : Int32 → Int32 → Int32 → Int32 → Option Int32 :=
  @Nat.rec (fun _ => Int32 → Int32 → Int32 → Int32 → Option Int32) (fun _ _ _ _ => none) (fun _ K11 x2 x3 x4 x5 =>
  (if (F 23) ≤ x5 then (if gok x3 6 = true then (some (if (0 : Int32) < ((if (0 : Int32) < x4 then x4 else (0 : Int32)) - (A 16 (x3).toNatClampNeg)) then ((if (0 : Int32) < x4 then x4 else (0 : Int32)) - (A 16 (x3).toNatClampNeg)) else (0 : Int32))) else none) else (if (f_X10_bit x2 x5) = (1 : Int32) then (if gok ((x5 * (6 : Int32)) + x3) 48 = true then (K11 x2 x3 (x4 + (A 33 (((x5 * (6 : Int32)) + x3)).toNatClampNeg)) (x5 + (1 : Int32))) else none) else (K11 x2 x3 x4 (x5 + (1 : Int32)))))) n
theorem f_X5_heldBy_11_s (F : ZF) (A : ZA) (T : Int64) (n : Nat) (x2 x3 x4 x5 : Int32) : f_X5_heldBy_11 F A T (n + 1) x2 x3 x4 x5 =
  (if (F 23) ≤ x5 then (if gok x3 6 = true then (some (if (0 : Int32) < ((if (0 : Int32) < x4 then x4 else (0 : Int32)) - (A 16 (x3).toNatClampNeg)) then ((if (0 : Int32) < x4 then x4 else (0 : Int32)) - (A 16 (x3).toNatClampNeg)) else (0 : Int32))) else none) else (if (f_X10_bit x2 x5) = (1 : Int32) then (if gok ((x5 * (6 : Int32)) + x3) 48 = true then ((f_X5_heldBy_11 F A T n) x2 x3 (x4 + (A 33 (((x5 * (6 : Int32)) + x3)).toNatClampNeg)) (x5 + (1 : Int32))) else none) else ((f_X5_heldBy_11 F A T n) x2 x3 x4 (x5 + (1 : Int32))))) := rfl
noncomputable def f_X5_heldBy (a0 a1 : Int32) (F : ZF) (A : ZA) (T : Int64) : Option Int32 :=
  (if gok a1 6 = true then (f_X5_heldBy_11 F A T 1000 a0 a1 (A 29 (a1).toNatClampNeg) (0 : Int32)) else none)
noncomputable def f_X5_weigh_7 (n : Nat) : Int32 → Int32 → ZF → ZA → Int64 → Option ZS :=
  @Nat.rec (fun _ => Int32 → Int32 → ZF → ZA → Int64 → Option ZS) (fun _ _ _ _ _ => none) (fun _ K7 x2 x3 F A T =>
  (if (F 9) ≤ x3 then (some (F, A, T)) else (Option.bind (f_X5_heldBy x2 x3 F A T) fun q3 => (if gok x3 6 = true then (if gok x3 6 = true then (K7 x2 (x3 + (1 : Int32)) (upd F 8 ((F 8) + ((zst A 14 (x3).toNatClampNeg q3) 14 (x3).toNatClampNeg))) (zst A 14 (x3).toNatClampNeg q3) T) else none) else none)))) n
theorem f_X5_weigh_7_s (n : Nat) (x2 x3 : Int32) (F : ZF) (A : ZA) (T : Int64) : f_X5_weigh_7 (n + 1) x2 x3 F A T =
  (if (F 9) ≤ x3 then (some (F, A, T)) else (Option.bind (f_X5_heldBy x2 x3 F A T) fun q3 => (if gok x3 6 = true then (if gok x3 6 = true then ((f_X5_weigh_7 n) x2 (x3 + (1 : Int32)) (upd F 8 ((F 8) + ((zst A 14 (x3).toNatClampNeg q3) 14 (x3).toNatClampNeg))) (zst A 14 (x3).toNatClampNeg q3) T) else none) else none))) := rfl
noncomputable def f_X5_weigh (a0 : Int32) (F : ZF) (A : ZA) (T : Int64) : Option ZS :=
  (f_X5_weigh_7 1000 a0 (0 : Int32) (upd F 8 (0 : Int32)) A T)
noncomputable def f_X5_giveOneDayMore_4 (n : Nat) : Int32 → Int32 → ZF → ZA → Int64 → Option ZS :=
  @Nat.rec (fun _ => Int32 → Int32 → ZF → ZA → Int64 → Option ZS) (fun _ _ _ _ _ => none) (fun _ K4 x1 x2 F A T =>
  (if (F 9) ≤ x2 then (if gok x1 6 = true then (if gok x1 6 = true then (if gok x1 6 = true then (some (F, (zst (zst A 15 (x1).toNatClampNeg ((A 15 (x1).toNatClampNeg) + (1 : Int32))) 17 (x1).toNatClampNeg (-1 : Int32)), T)) else none) else none) else none) else (if gok x2 6 = true then (if gok x1 6 = true then (if (A 17 (x2).toNatClampNeg) ≤ (A 17 (x1).toNatClampNeg) then (K4 x1 (x2 + (1 : Int32)) F A T) else (K4 x2 (x2 + (1 : Int32)) F A T)) else none) else none))) n
theorem f_X5_giveOneDayMore_4_s (n : Nat) (x1 x2 : Int32) (F : ZF) (A : ZA) (T : Int64) : f_X5_giveOneDayMore_4 (n + 1) x1 x2 F A T =
  (if (F 9) ≤ x2 then (if gok x1 6 = true then (if gok x1 6 = true then (if gok x1 6 = true then (some (F, (zst (zst A 15 (x1).toNatClampNeg ((A 15 (x1).toNatClampNeg) + (1 : Int32))) 17 (x1).toNatClampNeg (-1 : Int32)), T)) else none) else none) else none) else (if gok x2 6 = true then (if gok x1 6 = true then (if (A 17 (x2).toNatClampNeg) ≤ (A 17 (x1).toNatClampNeg) then ((f_X5_giveOneDayMore_4 n) x1 (x2 + (1 : Int32)) F A T) else ((f_X5_giveOneDayMore_4 n) x2 (x2 + (1 : Int32)) F A T)) else none) else none)) := rfl
noncomputable def f_X5_giveOneDayMore (F : ZF) (A : ZA) (T : Int64) : Option ZS :=
  (f_X5_giveOneDayMore_4 1000 (0 : Int32) (1 : Int32) F A T)
noncomputable def f_X5_sentence_100 (n : Nat) : Int32 → Int32 → ZF → ZA → Int64 → Option ZS :=
  @Nat.rec (fun _ => Int32 → Int32 → ZF → ZA → Int64 → Option ZS) (fun _ _ _ _ _ => none) (fun _ K100 x2 x3 F A T =>
  (if (6 : Int32) ≤ x3 then (some (F, A, T)) else (if x2 ≤ 0 then (some (F, A, T)) else (Option.bind (f_X5_giveOneDayMore F A T) fun q8 => (K100 (x2 + (-1 : Int32)) (x3 + (1 : Int32)) q8.1 q8.2.1 q8.2.2))))) n
theorem f_X5_sentence_100_s (n : Nat) (x2 x3 : Int32) (F : ZF) (A : ZA) (T : Int64) : f_X5_sentence_100 (n + 1) x2 x3 F A T =
  (if (6 : Int32) ≤ x3 then (some (F, A, T)) else (if x2 ≤ 0 then (some (F, A, T)) else (Option.bind (f_X5_giveOneDayMore F A T) fun q8 => ((f_X5_sentence_100 n) (x2 + (-1 : Int32)) (x3 + (1 : Int32)) q8.1 q8.2.1 q8.2.2)))) := rfl
noncomputable def f_X5_sentence_82 (K15 : Int32 → Int32 → Int32 → ZF → ZA → Int64 → Option ZS) (x1 x2 x3 y0 y1 : Int32) (F : ZF) (A : ZA) (T : Int64) : Option ZS :=
  (if gok y1 6 = true then (if gok x3 6 = true then (K15 x1 (x2 - ((zst A 17 (y1).toNatClampNeg y0) 15 (x3).toNatClampNeg)) (x3 + (1 : Int32)) F (zst A 17 (y1).toNatClampNeg y0) T) else none) else none)
noncomputable def f_X5_sentence_52 (K15 : Int32 → Int32 → Int32 → ZF → ZA → Int64 → Option ZS) (x1 x2 x3 y0 y1 : Int32) (F : ZF) (A : ZA) (T : Int64) : Option ZS :=
  (if gok y1 6 = true then (if (F 8) = 0 then (f_X5_sentence_82 K15 x1 x2 x3 (0 : Int32) x3 F (zst A 15 (y1).toNatClampNeg y0) T) else (if gok x3 6 = true then (if (F 8) = 0 then none else (f_X5_sentence_82 K15 x1 x2 x3 ((x1 * ((zst A 15 (y1).toNatClampNeg y0) 14 (x3).toNatClampNeg)) - (x1 * ((zst A 15 (y1).toNatClampNeg y0) 14 (x3).toNatClampNeg)) / (F 8) * (F 8)) x3 F (zst A 15 (y1).toNatClampNeg y0) T)) else none)) else none)
noncomputable def f_X5_sentence_15 (n : Nat) : Int32 → Int32 → Int32 → ZF → ZA → Int64 → Option ZS :=
  @Nat.rec (fun _ => Int32 → Int32 → Int32 → ZF → ZA → Int64 → Option ZS) (fun _ _ _ _ _ _ => none) (fun _ K15 x1 x2 x3 F A T =>
  (if (F 9) ≤ x3 then (f_X5_sentence_100 1000 x2 (0 : Int32) F A T) else (if (F 8) = 0 then (f_X5_sentence_52 K15 x1 x2 x3 (0 : Int32) x3 F A T) else (if gok x3 6 = true then (if (F 8) = 0 then none else (f_X5_sentence_52 K15 x1 x2 x3 ((x1 * (A 14 (x3).toNatClampNeg)) / (F 8)) x3 F A T)) else none)))) n
theorem f_X5_sentence_15_s (n : Nat) (x1 x2 x3 : Int32) (F : ZF) (A : ZA) (T : Int64) : f_X5_sentence_15 (n + 1) x1 x2 x3 F A T =
  (if (F 9) ≤ x3 then (f_X5_sentence_100 1000 x2 (0 : Int32) F A T) else (if (F 8) = 0 then (f_X5_sentence_52 (f_X5_sentence_15 n) x1 x2 x3 (0 : Int32) x3 F A T) else (if gok x3 6 = true then (if (F 8) = 0 then none else (f_X5_sentence_52 (f_X5_sentence_15 n) x1 x2 x3 ((x1 * (A 14 (x3).toNatClampNeg)) / (F 8)) x3 F A T)) else none))) := rfl
noncomputable def f_X5_sentence (a0 : Int32) (F : ZF) (A : ZA) (T : Int64) : Option ZS :=
  (if (F 8) = 0 then (f_X5_sentence_15 1000 a0 (0 : Int32) (0 : Int32) F A T) else (f_X5_sentence_15 1000 a0 a0 (0 : Int32) F A T))
noncomputable def f_X10_weighNow (F : ZF) (A : ZA) (T : Int64) : Option ZS :=
  (Option.bind (f_X5_countHours (F 11) F A T) fun q1 => (Option.bind (f_X5_weigh (q1.1 10) q1.1 q1.2.1 q1.2.2) fun q3 => (Option.bind (f_X5_sentence (q3.1 12) q3.1 q3.2.1 q3.2.2) fun q5 => (some (q5.1, q5.2.1, q5.2.2)))))
noncomputable def f_X10_suspect (a0 a1 : Int32) (F : ZF) (A : ZA) (T : Int64) : Option (Int32 × ZS) :=
  (if (f_X10_isSuspect a0 F A T) = 0 then (some ((-1 : Int32), F, A, T)) else (if (f_X10_within a1 (0 : Int32) (3 : Int32)) = 0 then (some ((-1 : Int32), F, A, T)) else (Option.bind (f_X10_weighNow F A T) fun q5 => (if a1 = (0 : Int32) then (if gok a0 6 = true then (some ((q5.2.1 29 (a0).toNatClampNeg), q5.1, q5.2.1, q5.2.2)) else none) else (if a1 = (1 : Int32) then (if gok a0 6 = true then (some ((q5.2.1 14 (a0).toNatClampNeg), q5.1, q5.2.1, q5.2.2)) else none) else (if a1 = (2 : Int32) then (if gok a0 6 = true then (some ((q5.2.1 15 (a0).toNatClampNeg), q5.1, q5.2.1, q5.2.2)) else none) else (if gok a0 6 = true then (some ((q5.2.1 16 (a0).toNatClampNeg), q5.1, q5.2.1, q5.2.2)) else none)))))))
noncomputable def f_X10_isFact (a0 : Int32) (F : ZF) (A : ZA) (T : Int64) : Int32 :=
  ((f_X10_within a0 (0 : Int32) ((F 23) - (1 : Int32))))
noncomputable def f_X10_fact (a0 a1 : Int32) (F : ZF) (A : ZA) (T : Int64) : Option Int32 :=
  (if (f_X10_isFact a0 F A T) = 0 then (some (-1 : Int32)) else (if (f_X10_within a1 (0 : Int32) (2 : Int32)) = 0 then (some (-1 : Int32)) else (if a1 = (0 : Int32) then (if gok a0 8 = true then (some (A 30 (a0).toNatClampNeg)) else none) else (if a1 = (1 : Int32) then (if gok a0 8 = true then (some (A 31 (a0).toNatClampNeg)) else none) else (some (f_X10_bit (F 10) a0))))))
noncomputable def f_X10_moves (a0 a1 : Int32) (F : ZF) (A : ZA) (T : Int64) : Option Int32 :=
  (if (f_X10_isFact a0 F A T) = 0 then (some (-1000000 : Int32)) else (if (f_X10_isSuspect a1 F A T) = 0 then (some (-1000000 : Int32)) else (if gok ((a0 * (6 : Int32)) + a1) 48 = true then (some (A 32 (((a0 * (6 : Int32)) + a1)).toNatClampNeg)) else none)))
noncomputable def f_X10_isAlibi (a0 : Int32) (F : ZF) (A : ZA) (T : Int64) : Int32 :=
  ((f_X10_within a0 (0 : Int32) ((F 24) - (1 : Int32))))
noncomputable def f_X10_alibi (a0 a1 : Int32) (F : ZF) (A : ZA) (T : Int64) : Option Int32 :=
  (if (f_X10_isAlibi a0 F A T) = 0 then (some (-1 : Int32)) else (if (f_X10_within a1 (0 : Int32) (4 : Int32)) = 0 then (some (-1 : Int32)) else (if a1 = (0 : Int32) then (if gok a0 8 = true then (some (A 34 (a0).toNatClampNeg)) else none) else (if a1 = (1 : Int32) then (if gok a0 8 = true then (some (A 35 (a0).toNatClampNeg)) else none) else (if a1 = (2 : Int32) then (if gok a0 8 = true then (some (A 36 (a0).toNatClampNeg)) else none) else (if a1 = (3 : Int32) then (if gok a0 8 = true then (some (A 37 (a0).toNatClampNeg)) else none) else (some (f_X10_bit (F 11) a0))))))))
noncomputable def f_X6_remember_30 (F : ZF) (A : ZA) (T : Int64) : Option ZS :=
  (if gok (F 13) 10 = true then (some ((upd F 13 ((F 13) + (1 : Int32))), (zst A 18 ((F 13)).toNatClampNeg ((((F 12) <<< ((16 : Int32) &&& 31)) ||| ((F 11) <<< ((8 : Int32) &&& 31))) ||| (F 10))), T)) else none)
noncomputable def f_X6_remember (F : ZF) (A : ZA) (T : Int64) : Option ZS :=
  (if (F 13) < (10 : Int32) then (f_X6_remember_30 F A T) else (f_X6_remember_30 (upd F 13 (9 : Int32)) (zrw A 18 (va_cpy (A 18) (A 18) ((1 : Int32)).toNatClampNeg ((0 : Int32)).toNatClampNeg ((9 : Int32)).toNatClampNeg)) T))
noncomputable def f_X10_caseNow (F : ZF) (A : ZA) (T : Int64) : Option (Int32 × ZS) :=
  (Option.bind (f_X10_weighNow F A T) fun q1 => (some ((q1.1 8), q1.1, q1.2.1, q1.2.2)))
noncomputable def f_X10_find (a0 a1 : Int32) (F : ZF) (A : ZA) (T : Int64) : Option (Int32 × ZS) :=
  (if (f_X10_isFact a0 F A T) = 0 then (some ((-1 : Int32), F, A, T)) else (if (f_X10_within a1 (0 : Int32) (1 : Int32)) = 0 then (some ((-1 : Int32), F, A, T)) else (if (f_X10_bit (F 10) a0) = a1 then (some ((-2 : Int32), F, A, T)) else (Option.bind (f_X6_remember F A T) fun q7 => (Option.bind (f_X10_caseNow (upd q7.1 10 ((q7.1 10) ^^^ ((1 : Int32) <<< (a0 &&& 31)))) q7.2.1 q7.2.2) fun q10 => (some (q10.1, q10.2.1, q10.2.2.1, q10.2.2.2)))))))
noncomputable def f_X10_hear (a0 a1 : Int32) (F : ZF) (A : ZA) (T : Int64) : Option (Int32 × ZS) :=
  (if (f_X10_isAlibi a0 F A T) = 0 then (some ((-1 : Int32), F, A, T)) else (if (f_X10_within a1 (0 : Int32) (1 : Int32)) = 0 then (some ((-1 : Int32), F, A, T)) else (if (f_X10_bit (F 11) a0) = a1 then (some ((-2 : Int32), F, A, T)) else (Option.bind (f_X6_remember F A T) fun q7 => (Option.bind (f_X10_caseNow (upd q7.1 11 ((q7.1 11) ^^^ ((1 : Int32) <<< (a0 &&& 31)))) q7.2.1 q7.2.2) fun q10 => (some (q10.1, q10.2.1, q10.2.2.1, q10.2.2.2)))))))
noncomputable def f_X10_days (a0 : Int32) (F : ZF) (A : ZA) (T : Int64) : Option (Int32 × ZS) :=
  (if (f_X10_within a0 (0 : Int32) (60 : Int32)) = 0 then (some ((-1 : Int32), F, A, T)) else (if (F 12) = a0 then (some ((-2 : Int32), F, A, T)) else (Option.bind (f_X6_remember F A T) fun q4 => (some ((F 12), (upd q4.1 12 a0), q4.2.1, q4.2.2)))))
noncomputable def f_X6_stepBack (F : ZF) (A : ZA) (T : Int64) : Option ZS :=
  (if gok ((upd F 13 ((F 13) - (1 : Int32))) 13) 10 = true then (if gok ((upd (upd F 13 ((F 13) - (1 : Int32))) 10 ((A 18 (((upd F 13 ((F 13) - (1 : Int32))) 13)).toNatClampNeg) &&& (255 : Int32))) 13) 10 = true then (if gok ((upd (upd (upd F 13 ((F 13) - (1 : Int32))) 10 ((A 18 (((upd F 13 ((F 13) - (1 : Int32))) 13)).toNatClampNeg) &&& (255 : Int32))) 11 (((A 18 (((upd (upd F 13 ((F 13) - (1 : Int32))) 10 ((A 18 (((upd F 13 ((F 13) - (1 : Int32))) 13)).toNatClampNeg) &&& (255 : Int32))) 13)).toNatClampNeg) >>> ((8 : Int32) &&& 31)) &&& (255 : Int32))) 13) 10 = true then (some ((upd (upd (upd (upd F 13 ((F 13) - (1 : Int32))) 10 ((A 18 (((upd F 13 ((F 13) - (1 : Int32))) 13)).toNatClampNeg) &&& (255 : Int32))) 11 (((A 18 (((upd (upd F 13 ((F 13) - (1 : Int32))) 10 ((A 18 (((upd F 13 ((F 13) - (1 : Int32))) 13)).toNatClampNeg) &&& (255 : Int32))) 13)).toNatClampNeg) >>> ((8 : Int32) &&& 31)) &&& (255 : Int32))) 12 ((A 18 (((upd (upd (upd F 13 ((F 13) - (1 : Int32))) 10 ((A 18 (((upd F 13 ((F 13) - (1 : Int32))) 13)).toNatClampNeg) &&& (255 : Int32))) 11 (((A 18 (((upd (upd F 13 ((F 13) - (1 : Int32))) 10 ((A 18 (((upd F 13 ((F 13) - (1 : Int32))) 13)).toNatClampNeg) &&& (255 : Int32))) 13)).toNatClampNeg) >>> ((8 : Int32) &&& 31)) &&& (255 : Int32))) 13)).toNatClampNeg) >>> ((16 : Int32) &&& 31))), A, T)) else none) else none) else none)
noncomputable def f_X10_undo (F : ZF) (A : ZA) (T : Int64) : Option (Int32 × ZS) :=
  (if (F 13) = 0 then (some ((-2 : Int32), F, A, T)) else (Option.bind (f_X6_stepBack F A T) fun q2 => (some ((q2.1 13), q2.1, q2.2.1, q2.2.2))))
noncomputable def f_X10_commonDivisor_34 (x2 : Int32) : Option Int32 :=
  (some (if (1 : Int32) < x2 then x2 else (1 : Int32)))
noncomputable def f_X10_commonDivisor_7 (n : Nat) : Int32 → Int32 → Int32 → Option Int32 :=
  @Nat.rec (fun _ => Int32 → Int32 → Int32 → Option Int32) (fun _ _ _ => none) (fun _ K7 x2 x3 x4 =>
  (if (64 : Int32) ≤ x4 then (f_X10_commonDivisor_34 x2) else (if x3 = 0 then (f_X10_commonDivisor_34 x2) else (if x3 = 0 then none else (K7 x3 (x2 - x2 / x3 * x3) (x4 + (1 : Int32))))))) n
theorem f_X10_commonDivisor_7_s (n : Nat) (x2 x3 x4 : Int32) : f_X10_commonDivisor_7 (n + 1) x2 x3 x4 =
  (if (64 : Int32) ≤ x4 then (f_X10_commonDivisor_34 x2) else (if x3 = 0 then (f_X10_commonDivisor_34 x2) else (if x3 = 0 then none else ((f_X10_commonDivisor_7 n) x3 (x2 - x2 / x3 * x3) (x4 + (1 : Int32)))))) := rfl
noncomputable def f_X10_commonDivisor (a0 a1 : Int32) : Option Int32 :=
  (f_X10_commonDivisor_7 1000 a0 a1 (0 : Int32))
noncomputable def f_X10_share_59 (x1 y0 : Int32) (F : ZF) (A : ZA) (T : Int64) : Option (Int32 × ZS) :=
  (if gok x1 6 = true then (Option.bind (f_X10_commonDivisor (F 8) (A 14 (x1).toNatClampNeg)) fun q12 => (if q12 = 0 then none else (some ((y0 / q12), F, A, T)))) else none)
noncomputable def f_X10_share (a0 a1 : Int32) (F : ZF) (A : ZA) (T : Int64) : Option (Int32 × ZS) :=
  (if (f_X10_isSuspect a0 F A T) = 0 then (some ((-1 : Int32), F, A, T)) else (if (f_X10_within a1 (0 : Int32) (1 : Int32)) = 0 then (some ((-1 : Int32), F, A, T)) else (Option.bind (f_X10_weighNow F A T) fun q5 => (if (q5.1 8) = 0 then (some ((-2 : Int32), q5.1, q5.2.1, q5.2.2)) else (if a1 = 0 then (if gok a0 6 = true then (f_X10_share_59 a0 (q5.2.1 14 (a0).toNatClampNeg) q5.1 q5.2.1 q5.2.2) else none) else (f_X10_share_59 a0 (q5.1 8) q5.1 q5.2.1 q5.2.2))))))
noncomputable def f_X5_allServe_4 (F : ZF) (A : ZA) (T : Int64) (n : Nat) : Int32 → Int32 → Option Int32 :=
  @Nat.rec (fun _ => Int32 → Int32 → Option Int32) (fun _ _ => none) (fun _ K4 x1 x2 =>
  (if (F 9) ≤ x2 then (some x1) else (if gok x2 6 = true then (K4 (x1 + (A 15 (x2).toNatClampNeg)) (x2 + (1 : Int32))) else none))) n
theorem f_X5_allServe_4_s (F : ZF) (A : ZA) (T : Int64) (n : Nat) (x1 x2 : Int32) : f_X5_allServe_4 F A T (n + 1) x1 x2 =
  (if (F 9) ≤ x2 then (some x1) else (if gok x2 6 = true then ((f_X5_allServe_4 F A T n) (x1 + (A 15 (x2).toNatClampNeg)) (x2 + (1 : Int32))) else none)) := rfl
noncomputable def f_X5_allServe (F : ZF) (A : ZA) (T : Int64) : Option Int32 :=
  (f_X5_allServe_4 F A T 1000 (0 : Int32) (0 : Int32))
noncomputable def f_X10_now (a0 : Int32) (F : ZF) (A : ZA) (T : Int64) : Option (Int32 × ZS) :=
  (if a0 = (0 : Int32) then (Option.bind (f_X10_caseNow F A T) fun q3 => (some (q3.1, q3.2.1, q3.2.2.1, q3.2.2.2))) else (if a0 = (1 : Int32) then (some ((F 10), F, A, T)) else (if a0 = (2 : Int32) then (some ((F 11), F, A, T)) else (if a0 = (3 : Int32) then (some ((F 12), F, A, T)) else (if a0 = (4 : Int32) then (Option.bind (f_X10_weighNow F A T) fun q9 => (Option.bind (f_X5_allServe q9.1 q9.2.1 q9.2.2) fun q12 => (some (q12, q9.1, q9.2.1, q9.2.2)))) else (some ((-1 : Int32), F, A, T)))))))
noncomputable def f_X10_isFraction (a0 a1 : Int32) : Int32 :=
  (if (f_X10_within a1 (1 : Int32) (20 : Int32)) = 0 then ((0 : Int32)) else (if (f_X10_within a0 (0 : Int32) a1) = 0 then ((0 : Int32)) else ((1 : Int32))))
noncomputable def f_X1_costOf_4 (F : ZF) (A : ZA) (T : Int64) (n : Nat) : Int32 → Int32 → Int32 → Option Int32 :=
  @Nat.rec (fun _ => Int32 → Int32 → Int32 → Option Int32) (fun _ _ _ => none) (fun _ K4 x1 x2 x3 =>
  (if (F 23) ≤ x3 then (some x2) else (if (f_X10_bit x1 x3) = (1 : Int32) then (if gok x3 8 = true then (K4 x1 (x2 + (A 30 (x3).toNatClampNeg)) (x3 + (1 : Int32))) else none) else (K4 x1 x2 (x3 + (1 : Int32)))))) n
theorem f_X1_costOf_4_s (F : ZF) (A : ZA) (T : Int64) (n : Nat) (x1 x2 x3 : Int32) : f_X1_costOf_4 F A T (n + 1) x1 x2 x3 =
  (if (F 23) ≤ x3 then (some x2) else (if (f_X10_bit x1 x3) = (1 : Int32) then (if gok x3 8 = true then ((f_X1_costOf_4 F A T n) x1 (x2 + (A 30 (x3).toNatClampNeg)) (x3 + (1 : Int32))) else none) else ((f_X1_costOf_4 F A T n) x1 x2 (x3 + (1 : Int32))))) := rfl
noncomputable def f_X1_costOf (a0 : Int32) (F : ZF) (A : ZA) (T : Int64) : Option Int32 :=
  (f_X1_costOf_4 F A T 1000 a0 (0 : Int32) (0 : Int32))
noncomputable def f_X10_isNoMore (a0 a1 a2 a3 : Int32) : Int32 :=
  (if a1 = 0 then ((1 : Int32)) else (if (a2 * a1) < (a0 * a3) then ((0 : Int32)) else ((1 : Int32))))
noncomputable def f_X10_isNoLess (a0 a1 a2 a3 : Int32) : Int32 :=
  (if a1 = 0 then ((0 : Int32)) else (if (a0 * a3) < (a2 * a1) then ((0 : Int32)) else ((1 : Int32))))
noncomputable def f_X10_cheapest_86 (K28 : Int32 → Int32 → Int32 → Int32 → Int32 → Int32 → Int32 → ZF → ZA → Int64 → Option (Int32 × ZS)) (x1 x2 x3 x4 x5 x6 x7 x8 : Int32) (F : ZF) (A : ZA) (T : Int64) : Option (Int32 × ZS) :=
  (Option.bind (f_X5_weigh (x7 ||| (F 10)) F A T) fun q10 => (if gok x1 6 = true then (if x4 = 0 then (if (f_X10_isNoMore (q10.2.1 14 (x1).toNatClampNeg) (q10.1 8) x2 x3) = 0 then (K28 x1 x2 x3 x4 x5 x6 (x7 + (1 : Int32)) q10.1 q10.2.1 q10.2.2) else (K28 x1 x2 x3 x4 x7 x8 (x7 + (1 : Int32)) q10.1 q10.2.1 q10.2.2)) else (if (f_X10_isNoLess (q10.2.1 14 (x1).toNatClampNeg) (q10.1 8) x2 x3) = 0 then (K28 x1 x2 x3 x4 x5 x6 (x7 + (1 : Int32)) q10.1 q10.2.1 q10.2.2) else (K28 x1 x2 x3 x4 x7 x8 (x7 + (1 : Int32)) q10.1 q10.2.1 q10.2.2))) else none))
noncomputable def f_X10_cheapest_28 (n : Nat) : Int32 → Int32 → Int32 → Int32 → Int32 → Int32 → Int32 → ZF → ZA → Int64 → Option (Int32 × ZS) :=
  @Nat.rec (fun _ => Int32 → Int32 → Int32 → Int32 → Int32 → Int32 → Int32 → ZF → ZA → Int64 → Option (Int32 × ZS)) (fun _ _ _ _ _ _ _ _ _ _ => none) (fun _ K28 x1 x2 x3 x4 x5 x6 x7 F A T =>
  (if ((1 : Int32) <<< ((F 23) &&& 31)) ≤ x7 then (some (x5, F, A, T)) else (if (x7 &&& (F 10)) = 0 then (Option.bind (f_X1_costOf x7 F A T) fun q6 => (if x5 = (-9 : Int32) then (f_X10_cheapest_86 K28 x1 x2 x3 x4 x5 x6 x7 q6 F A T) else (if q6 < x6 then (f_X10_cheapest_86 K28 x1 x2 x3 x4 x5 x6 x7 q6 F A T) else (K28 x1 x2 x3 x4 x5 x6 (x7 + (1 : Int32)) F A T)))) else (K28 x1 x2 x3 x4 x5 x6 (x7 + (1 : Int32)) F A T)))) n
theorem f_X10_cheapest_28_s (n : Nat) (x1 x2 x3 x4 x5 x6 x7 : Int32) (F : ZF) (A : ZA) (T : Int64) : f_X10_cheapest_28 (n + 1) x1 x2 x3 x4 x5 x6 x7 F A T =
  (if ((1 : Int32) <<< ((F 23) &&& 31)) ≤ x7 then (some (x5, F, A, T)) else (if (x7 &&& (F 10)) = 0 then (Option.bind (f_X1_costOf x7 F A T) fun q6 => (if x5 = (-9 : Int32) then (f_X10_cheapest_86 (f_X10_cheapest_28 n) x1 x2 x3 x4 x5 x6 x7 q6 F A T) else (if q6 < x6 then (f_X10_cheapest_86 (f_X10_cheapest_28 n) x1 x2 x3 x4 x5 x6 x7 q6 F A T) else ((f_X10_cheapest_28 n) x1 x2 x3 x4 x5 x6 (x7 + (1 : Int32)) F A T)))) else ((f_X10_cheapest_28 n) x1 x2 x3 x4 x5 x6 (x7 + (1 : Int32)) F A T))) := rfl
noncomputable def f_X10_cheapest (a0 a1 a2 a3 : Int32) (F : ZF) (A : ZA) (T : Int64) : Option (Int32 × ZS) :=
  (Option.bind (f_X5_countHours (F 11) F A T) fun q1 => (f_X10_cheapest_28 1000 a0 a1 a2 a3 (-9 : Int32) (0 : Int32) (0 : Int32) q1.1 q1.2.1 q1.2.2))
noncomputable def f_X10_costOrSet (a0 a1 : Int32) (F : ZF) (A : ZA) (T : Int64) : Option Int32 :=
  (if a0 = (-9 : Int32) then (some a0) else (if a1 = (1 : Int32) then (some a0) else (Option.bind (f_X1_costOf a0 F A T) fun q4 => (some q4))))
noncomputable def f_X10_proof (a0 a1 a2 a3 : Int32) (F : ZF) (A : ZA) (T : Int64) : Option (Int32 × ZS) :=
  (if (f_X10_isSuspect a0 F A T) = 0 then (some ((-1 : Int32), F, A, T)) else (if (f_X10_isFraction a1 a2) = 0 then (some ((-1 : Int32), F, A, T)) else (if (f_X10_within a3 (0 : Int32) (1 : Int32)) = 0 then (some ((-1 : Int32), F, A, T)) else (Option.bind (f_X10_cheapest a0 a1 a2 (1 : Int32) F A T) fun q8 => (Option.bind (f_X10_costOrSet q8.1 a3 q8.2.1 q8.2.2.1 q8.2.2.2) fun q11 => (some (q11, q8.2.1, q8.2.2.1, q8.2.2.2)))))))
noncomputable def f_X10_cleared (a0 a1 a2 a3 : Int32) (F : ZF) (A : ZA) (T : Int64) : Option (Int32 × ZS) :=
  (if (f_X10_isSuspect a0 F A T) = 0 then (some ((-1 : Int32), F, A, T)) else (if (f_X10_isFraction a1 a2) = 0 then (some ((-1 : Int32), F, A, T)) else (if (f_X10_within a3 (0 : Int32) (1 : Int32)) = 0 then (some ((-1 : Int32), F, A, T)) else (Option.bind (f_X10_cheapest a0 a1 a2 (0 : Int32) F A T) fun q8 => (Option.bind (f_X10_costOrSet q8.1 a3 q8.2.1 q8.2.2.1 q8.2.2.2) fun q11 => (some (q11, q8.2.1, q8.2.2.1, q8.2.2.2)))))))
noncomputable def f_X10_forged_54 (n : Nat) : Int32 → Int32 → Int32 → Int32 → Int32 → ZF → ZA → Int64 → Option (Int32 × ZS) :=
  @Nat.rec (fun _ => Int32 → Int32 → Int32 → Int32 → Int32 → ZF → ZA → Int64 → Option (Int32 × ZS)) (fun _ _ _ _ _ _ _ _ => none) (fun _ K54 x1 x2 x3 x4 x5 F A T =>
  (if x4 < x5 then (some ((-9 : Int32), F, A, T)) else (if gok x1 6 = true then (if gok x1 6 = true then (if (f_X10_isNoMore (if (0 : Int32) < ((A 14 (x1).toNatClampNeg) - x5) then ((A 14 (x1).toNatClampNeg) - x5) else (0 : Int32)) (((F 8) - (A 14 (x1).toNatClampNeg)) + (if (0 : Int32) < ((A 14 (x1).toNatClampNeg) - x5) then ((A 14 (x1).toNatClampNeg) - x5) else (0 : Int32))) x2 x3) = 0 then (K54 x1 x2 x3 x4 (x5 + (1 : Int32)) F A T) else (some (x5, F, A, T))) else none) else none))) n
theorem f_X10_forged_54_s (n : Nat) (x1 x2 x3 x4 x5 : Int32) (F : ZF) (A : ZA) (T : Int64) : f_X10_forged_54 (n + 1) x1 x2 x3 x4 x5 F A T =
  (if x4 < x5 then (some ((-9 : Int32), F, A, T)) else (if gok x1 6 = true then (if gok x1 6 = true then (if (f_X10_isNoMore (if (0 : Int32) < ((A 14 (x1).toNatClampNeg) - x5) then ((A 14 (x1).toNatClampNeg) - x5) else (0 : Int32)) (((F 8) - (A 14 (x1).toNatClampNeg)) + (if (0 : Int32) < ((A 14 (x1).toNatClampNeg) - x5) then ((A 14 (x1).toNatClampNeg) - x5) else (0 : Int32))) x2 x3) = 0 then ((f_X10_forged_54 n) x1 x2 x3 x4 (x5 + (1 : Int32)) F A T) else (some (x5, F, A, T))) else none) else none)) := rfl
noncomputable def f_X10_forged (a0 a1 a2 : Int32) (F : ZF) (A : ZA) (T : Int64) : Option (Int32 × ZS) :=
  (if (f_X10_isSuspect a0 F A T) = 0 then (some ((-1 : Int32), F, A, T)) else (if (f_X10_isFraction a1 a2) = 0 then (some ((-1 : Int32), F, A, T)) else (Option.bind (f_X10_weighNow F A T) fun q5 => (if gok a0 6 = true then (f_X10_forged_54 1000 a0 a1 a2 ((((q5.1 26) - (q5.1 25)) + (1 : Int32)) - (q5.2.1 16 (a0).toNatClampNeg)) (0 : Int32) q5.1 q5.2.1 q5.2.2) else none))))
noncomputable def f_X1_doClash (a0 a1 : Int32) (F : ZF) (A : ZA) (T : Int64) : Option Int32 :=
  (if gok a0 8 = true then (if gok a1 8 = true then (if (A 34 (a0).toNatClampNeg) = (A 34 (a1).toNatClampNeg) then (if gok a0 8 = true then (if gok a1 8 = true then (if (A 35 (a0).toNatClampNeg) = (A 35 (a1).toNatClampNeg) then (some (0 : Int32)) else (if gok a0 8 = true then (if gok a1 8 = true then (if (A 37 (a1).toNatClampNeg) < (A 36 (a0).toNatClampNeg) then (some (0 : Int32)) else (if gok a1 8 = true then (if gok a0 8 = true then (if (A 37 (a0).toNatClampNeg) < (A 36 (a1).toNatClampNeg) then (some (0 : Int32)) else (some (1 : Int32))) else none) else none)) else none) else none)) else none) else none) else (some (0 : Int32))) else none) else none)
noncomputable def f_X10_matchClashers_26 (K4 : Int32 → Int32 → ZF → ZA → Int64 → Option (Int32 × ZS)) (n : Nat) : Int32 → Int32 → Int32 → ZF → ZA → Int64 → Option (Int32 × ZS) :=
  @Nat.rec (fun _ => Int32 → Int32 → Int32 → ZF → ZA → Int64 → Option (Int32 × ZS)) (fun _ _ _ _ _ _ => none) (fun _ K26 x1 x2 x3 F A T =>
  (if (F 24) ≤ x3 then (K4 x1 (x2 + (1 : Int32)) F A T) else (Option.bind (f_X1_doClash x2 x3 F A T) fun q5 => (if q5 = 0 then (K26 x1 x2 (x3 + (1 : Int32)) F A T) else (if gok x2 8 = true then (if gok x2 8 = true then (K26 (x1 + (1 : Int32)) x2 (x3 + (1 : Int32)) F (zst A 7 (x2).toNatClampNeg ((A 7 (x2).toNatClampNeg) ||| ((1 : Int32) <<< (x3 &&& 31)))) T) else none) else none))))) n
theorem f_X10_matchClashers_26_s (K4 : Int32 → Int32 → ZF → ZA → Int64 → Option (Int32 × ZS)) (n : Nat) (x1 x2 x3 : Int32) (F : ZF) (A : ZA) (T : Int64) : f_X10_matchClashers_26 K4 (n + 1) x1 x2 x3 F A T =
  (if (F 24) ≤ x3 then (K4 x1 (x2 + (1 : Int32)) F A T) else (Option.bind (f_X1_doClash x2 x3 F A T) fun q5 => (if q5 = 0 then ((f_X10_matchClashers_26 K4 n) x1 x2 (x3 + (1 : Int32)) F A T) else (if gok x2 8 = true then (if gok x2 8 = true then ((f_X10_matchClashers_26 K4 n) (x1 + (1 : Int32)) x2 (x3 + (1 : Int32)) F (zst A 7 (x2).toNatClampNeg ((A 7 (x2).toNatClampNeg) ||| ((1 : Int32) <<< (x3 &&& 31)))) T) else none) else none)))) := rfl
noncomputable def f_X10_matchClashers_4 (n : Nat) : Int32 → Int32 → ZF → ZA → Int64 → Option (Int32 × ZS) :=
  @Nat.rec (fun _ => Int32 → Int32 → ZF → ZA → Int64 → Option (Int32 × ZS)) (fun _ _ _ _ _ => none) (fun _ K4 x1 x2 F A T =>
  (if (F 24) ≤ x2 then (some (x1, F, A, T)) else (if gok x2 8 = true then (f_X10_matchClashers_26 K4 1000 x1 x2 (x2 + (1 : Int32)) F (zst A 7 (x2).toNatClampNeg (0 : Int32)) T) else none))) n
theorem f_X10_matchClashers_4_s (n : Nat) (x1 x2 : Int32) (F : ZF) (A : ZA) (T : Int64) : f_X10_matchClashers_4 (n + 1) x1 x2 F A T =
  (if (F 24) ≤ x2 then (some (x1, F, A, T)) else (if gok x2 8 = true then (f_X10_matchClashers_26 (f_X10_matchClashers_4 n) 1000 x1 x2 (x2 + (1 : Int32)) F (zst A 7 (x2).toNatClampNeg (0 : Int32)) T) else none)) := rfl
noncomputable def f_X10_matchClashers (F : ZF) (A : ZA) (T : Int64) : Option (Int32 × ZS) :=
  (f_X10_matchClashers_4 1000 (0 : Int32) (0 : Int32) F A T)
noncomputable def f_X10_leavesNoClash_2 (F : ZF) (A : ZA) (T : Int64) (n : Nat) : Int32 → Int32 → Option Int32 :=
  @Nat.rec (fun _ => Int32 → Int32 → Option Int32) (fun _ _ => none) (fun _ K2 x1 x2 =>
  (if (F 24) ≤ x2 then (some (1 : Int32)) else (if (f_X10_bit x1 x2) = 0 then (if gok x2 8 = true then (if ((A 7 (x2).toNatClampNeg) &&& (x1 ^^^ (-1 : Int32))) = 0 then (K2 x1 (x2 + (1 : Int32))) else (some (0 : Int32))) else none) else (K2 x1 (x2 + (1 : Int32)))))) n
theorem f_X10_leavesNoClash_2_s (F : ZF) (A : ZA) (T : Int64) (n : Nat) (x1 x2 : Int32) : f_X10_leavesNoClash_2 F A T (n + 1) x1 x2 =
  (if (F 24) ≤ x2 then (some (1 : Int32)) else (if (f_X10_bit x1 x2) = 0 then (if gok x2 8 = true then (if ((A 7 (x2).toNatClampNeg) &&& (x1 ^^^ (-1 : Int32))) = 0 then ((f_X10_leavesNoClash_2 F A T n) x1 (x2 + (1 : Int32))) else (some (0 : Int32))) else none) else ((f_X10_leavesNoClash_2 F A T n) x1 (x2 + (1 : Int32))))) := rfl
noncomputable def f_X10_leavesNoClash (a0 : Int32) (F : ZF) (A : ZA) (T : Int64) : Option Int32 :=
  (f_X10_leavesNoClash_2 F A T 1000 a0 (0 : Int32))
noncomputable def f_X10_fewestFalse_14 (F : ZF) (A : ZA) (T : Int64) (n : Nat) : Int32 → Int32 → Option Int32 :=
  @Nat.rec (fun _ => Int32 → Int32 → Option Int32) (fun _ _ => none) (fun _ K14 x1 x2 =>
  (if ((1 : Int32) <<< ((F 24) &&& 31)) ≤ x2 then (some x1) else (if (f_J6_bitCount_0f7a4 x1) ≤ (f_J6_bitCount_0f7a4 x2) then (K14 x1 (x2 + (1 : Int32))) else (Option.bind (f_X10_leavesNoClash x2 F A T) fun q6 => (if q6 = 0 then (K14 x1 (x2 + (1 : Int32))) else (K14 x2 (x2 + (1 : Int32)))))))) n
theorem f_X10_fewestFalse_14_s (F : ZF) (A : ZA) (T : Int64) (n : Nat) (x1 x2 : Int32) : f_X10_fewestFalse_14 F A T (n + 1) x1 x2 =
  (if ((1 : Int32) <<< ((F 24) &&& 31)) ≤ x2 then (some x1) else (if (f_J6_bitCount_0f7a4 x1) ≤ (f_J6_bitCount_0f7a4 x2) then ((f_X10_fewestFalse_14 F A T n) x1 (x2 + (1 : Int32))) else (Option.bind (f_X10_leavesNoClash x2 F A T) fun q6 => (if q6 = 0 then ((f_X10_fewestFalse_14 F A T n) x1 (x2 + (1 : Int32))) else ((f_X10_fewestFalse_14 F A T n) x2 (x2 + (1 : Int32))))))) := rfl
noncomputable def f_X10_fewestFalse (F : ZF) (A : ZA) (T : Int64) : Option Int32 :=
  (f_X10_fewestFalse_14 F A T 1000 (((1 : Int32) <<< ((F 24) &&& 31)) - (1 : Int32)) (0 : Int32))
noncomputable def f_X10_clash (a0 : Int32) (F : ZF) (A : ZA) (T : Int64) : Option (Int32 × ZS) :=
  (if (f_X10_within a0 (0 : Int32) (1 : Int32)) = 0 then (some ((-1 : Int32), F, A, T)) else (Option.bind (f_X10_matchClashers F A T) fun q4 => (if a0 = 0 then (some (q4.1, q4.2.1, q4.2.2.1, q4.2.2.2)) else (Option.bind (f_X10_fewestFalse q4.2.1 q4.2.2.1 q4.2.2.2) fun q8 => (some (q8, q4.2.1, q4.2.2.1, q4.2.2.2))))))
noncomputable def f_X10_bandHeld_34 (F : ZF) (A : ZA) (T : Int64) (x1 x3 y0 : Int32) : Option Int32 :=
  (some (y0 + ((3 : Int32) * ((f_J6_bitCount_0f7a4 x1) - x3))))
noncomputable def f_X10_bandHeld (a0 a1 : Int32) (F : ZF) (A : ZA) (T : Int64) : Option Int32 :=
  (if (f_X10_bit a0 a1) = (1 : Int32) then (if gok a1 6 = true then (f_X10_bandHeld_34 F A T a0 (f_X10_bit a0 a1) ((A 14 (a1).toNatClampNeg) / (2 : Int32))) else none) else (if gok a1 6 = true then (f_X10_bandHeld_34 F A T a0 (f_X10_bit a0 a1) (A 14 (a1).toNatClampNeg)) else none))
noncomputable def f_X10_bandDays_5 (F : ZF) (A : ZA) (T : Int64) (n : Nat) : Int32 → Int32 → Int32 → Int32 → Option Int32 :=
  @Nat.rec (fun _ => Int32 → Int32 → Int32 → Int32 → Option Int32) (fun _ _ _ _ => none) (fun _ K5 x1 x2 x3 x4 =>
  (if (F 22) ≤ x4 then (if x3 = 0 then (some (0 : Int32)) else (Option.bind (f_X10_bandHeld x1 x2 F A T) fun q4 => (if x3 = 0 then none else (some (((F 12) * q4) / x3))))) else (Option.bind (f_X10_bandHeld x1 x4 F A T) fun q8 => (K5 x1 x2 (x3 + q8) (x4 + (1 : Int32)))))) n
theorem f_X10_bandDays_5_s (F : ZF) (A : ZA) (T : Int64) (n : Nat) (x1 x2 x3 x4 : Int32) : f_X10_bandDays_5 F A T (n + 1) x1 x2 x3 x4 =
  (if (F 22) ≤ x4 then (if x3 = 0 then (some (0 : Int32)) else (Option.bind (f_X10_bandHeld x1 x2 F A T) fun q4 => (if x3 = 0 then none else (some (((F 12) * q4) / x3))))) else (Option.bind (f_X10_bandHeld x1 x4 F A T) fun q8 => ((f_X10_bandDays_5 F A T n) x1 x2 (x3 + q8) (x4 + (1 : Int32))))) := rfl
noncomputable def f_X10_bandDays (a0 a1 : Int32) (F : ZF) (A : ZA) (T : Int64) : Option Int32 :=
  (f_X10_bandDays_5 F A T 1000 a0 a1 (0 : Int32) (0 : Int32))
noncomputable def f_X10_firstGainer_2 (F : ZF) (A : ZA) (T : Int64) (n : Nat) : Int32 → Int32 → Option Int32 :=
  @Nat.rec (fun _ => Int32 → Int32 → Option Int32) (fun _ _ => none) (fun _ K2 x1 x2 =>
  (if (F 22) ≤ x2 then (some (-9 : Int32)) else (Option.bind (f_X10_bandDays (x1 ^^^ ((1 : Int32) <<< (x2 &&& 31))) x2 F A T) fun q3 => (Option.bind (f_X10_bandDays x1 x2 F A T) fun q6 => (if q6 ≤ q3 then (K2 x1 (x2 + (1 : Int32))) else (some x2)))))) n
theorem f_X10_firstGainer_2_s (F : ZF) (A : ZA) (T : Int64) (n : Nat) (x1 x2 : Int32) : f_X10_firstGainer_2 F A T (n + 1) x1 x2 =
  (if (F 22) ≤ x2 then (some (-9 : Int32)) else (Option.bind (f_X10_bandDays (x1 ^^^ ((1 : Int32) <<< (x2 &&& 31))) x2 F A T) fun q3 => (Option.bind (f_X10_bandDays x1 x2 F A T) fun q6 => (if q6 ≤ q3 then ((f_X10_firstGainer_2 F A T n) x1 (x2 + (1 : Int32))) else (some x2))))) := rfl
noncomputable def f_X10_firstGainer (a0 : Int32) (F : ZF) (A : ZA) (T : Int64) : Option Int32 :=
  (f_X10_firstGainer_2 F A T 1000 a0 (0 : Int32))
noncomputable def f_X10_rests_23 (n : Nat) : Int32 → Int32 → Int32 → Int32 → ZF → ZA → Int64 → Option (Int32 × ZS) :=
  @Nat.rec (fun _ => Int32 → Int32 → Int32 → Int32 → ZF → ZA → Int64 → Option (Int32 × ZS)) (fun _ _ _ _ _ _ _ => none) (fun _ K23 x1 x2 x3 x4 F A T =>
  (if ((1 : Int32) <<< ((F 22) &&& 31)) ≤ x4 then (if x1 = 0 then (some (x2, F, A, T)) else (some (x3, F, A, T))) else (Option.bind (f_X10_firstGainer x4 F A T) fun q8 => (if q8 = (-9 : Int32) then (if x2 = 0 then (K23 x1 (x2 + (1 : Int32)) x4 (x4 + (1 : Int32)) F A T) else (K23 x1 (x2 + (1 : Int32)) x3 (x4 + (1 : Int32)) F A T)) else (K23 x1 x2 x3 (x4 + (1 : Int32)) F A T))))) n
theorem f_X10_rests_23_s (n : Nat) (x1 x2 x3 x4 : Int32) (F : ZF) (A : ZA) (T : Int64) : f_X10_rests_23 (n + 1) x1 x2 x3 x4 F A T =
  (if ((1 : Int32) <<< ((F 22) &&& 31)) ≤ x4 then (if x1 = 0 then (some (x2, F, A, T)) else (some (x3, F, A, T))) else (Option.bind (f_X10_firstGainer x4 F A T) fun q8 => (if q8 = (-9 : Int32) then (if x2 = 0 then ((f_X10_rests_23 n) x1 (x2 + (1 : Int32)) x4 (x4 + (1 : Int32)) F A T) else ((f_X10_rests_23 n) x1 (x2 + (1 : Int32)) x3 (x4 + (1 : Int32)) F A T)) else ((f_X10_rests_23 n) x1 x2 x3 (x4 + (1 : Int32)) F A T)))) := rfl
noncomputable def f_X10_rests (a0 : Int32) (F : ZF) (A : ZA) (T : Int64) : Option (Int32 × ZS) :=
  (if (f_X10_within a0 (0 : Int32) (1 : Int32)) = 0 then (some ((-1 : Int32), F, A, T)) else (Option.bind (f_X10_weighNow F A T) fun q3 => (f_X10_rests_23 1000 a0 (0 : Int32) (-9 : Int32) (0 : Int32) q3.1 q3.2.1 q3.2.2)))
noncomputable def f_X10_gains (a0 : Int32) (F : ZF) (A : ZA) (T : Int64) : Option (Int32 × ZS) :=
  (if (f_X10_within a0 (0 : Int32) (((1 : Int32) <<< ((F 22) &&& 31)) - (1 : Int32))) = 0 then (some ((-1 : Int32), F, A, T)) else (Option.bind (f_X10_weighNow F A T) fun q3 => (Option.bind (f_X10_firstGainer a0 q3.1 q3.2.1 q3.2.2) fun q6 => (some (q6, q3.1, q3.2.1, q3.2.2)))))
noncomputable def f_X10_cellsNeeded_2 (F : ZF) (A : ZA) (T : Int64) (n : Nat) : Int32 → Int32 → Option Int32 :=
  @Nat.rec (fun _ => Int32 → Int32 → Option Int32) (fun _ _ => none) (fun _ K2 x1 x2 =>
  (if (F 22) ≤ x2 then (Option.bind (f_X5_allServe F A T) fun q3 => (if x1 = 0 then none else (some (((q3 + x1) - (1 : Int32)) / x1)))) else (if gok x2 6 = true then (if (A 15 (x2).toNatClampNeg) ≤ x1 then (K2 x1 (x2 + (1 : Int32))) else (some (-9 : Int32))) else none))) n
theorem f_X10_cellsNeeded_2_s (F : ZF) (A : ZA) (T : Int64) (n : Nat) (x1 x2 : Int32) : f_X10_cellsNeeded_2 F A T (n + 1) x1 x2 =
  (if (F 22) ≤ x2 then (Option.bind (f_X5_allServe F A T) fun q3 => (if x1 = 0 then none else (some (((q3 + x1) - (1 : Int32)) / x1)))) else (if gok x2 6 = true then (if (A 15 (x2).toNatClampNeg) ≤ x1 then ((f_X10_cellsNeeded_2 F A T n) x1 (x2 + (1 : Int32))) else (some (-9 : Int32))) else none)) := rfl
noncomputable def f_X10_cellsNeeded (a0 : Int32) (F : ZF) (A : ZA) (T : Int64) : Option Int32 :=
  (f_X10_cellsNeeded_2 F A T 1000 a0 (0 : Int32))
noncomputable def f_X10_cellsFor (a0 : Int32) (F : ZF) (A : ZA) (T : Int64) : Option (Int32 × ZS) :=
  (if (f_X10_within a0 (1 : Int32) (60 : Int32)) = 0 then (some ((-1 : Int32), F, A, T)) else (Option.bind (f_X10_weighNow F A T) fun q3 => (Option.bind (f_X10_cellsNeeded a0 q3.1 q3.2.1 q3.2.2) fun q6 => (some (q6, q3.1, q3.2.1, q3.2.2)))))
noncomputable def f_X10_sits_54 (n : Nat) : Int32 → Int32 → Int32 → Int32 → Int32 → ZF → ZA → Int64 → Option (Int32 × ZS) :=
  @Nat.rec (fun _ => Int32 → Int32 → Int32 → Int32 → Int32 → ZF → ZA → Int64 → Option (Int32 × ZS)) (fun _ _ _ _ _ _ _ _ => none) (fun _ K54 x1 x2 x3 x4 x5 F A T =>
  (if x2 ≤ x5 then (if x1 = 0 then none else (if x1 = 0 then none else (if gok x2 6 = true then (if (A 15 (x2).toNatClampNeg) ≤ (((x3 - (x4 - x4 / x1 * x1)) + x1) - ((x3 - (x4 - x4 / x1 * x1)) + x1) / x1 * x1) then (some ((-9 : Int32), F, A, T)) else (if x1 = 0 then none else (some (((x4 + (((x3 - (x4 - x4 / x1 * x1)) + x1) - ((x3 - (x4 - x4 / x1 * x1)) + x1) / x1 * x1)) / x1), F, A, T)))) else none))) else (if gok x5 6 = true then (K54 x1 x2 x3 (x4 + (A 15 (x5).toNatClampNeg)) (x5 + (1 : Int32)) F A T) else none))) n
theorem f_X10_sits_54_s (n : Nat) (x1 x2 x3 x4 x5 : Int32) (F : ZF) (A : ZA) (T : Int64) : f_X10_sits_54 (n + 1) x1 x2 x3 x4 x5 F A T =
  (if x2 ≤ x5 then (if x1 = 0 then none else (if x1 = 0 then none else (if gok x2 6 = true then (if (A 15 (x2).toNatClampNeg) ≤ (((x3 - (x4 - x4 / x1 * x1)) + x1) - ((x3 - (x4 - x4 / x1 * x1)) + x1) / x1 * x1) then (some ((-9 : Int32), F, A, T)) else (if x1 = 0 then none else (some (((x4 + (((x3 - (x4 - x4 / x1 * x1)) + x1) - ((x3 - (x4 - x4 / x1 * x1)) + x1) / x1 * x1)) / x1), F, A, T)))) else none))) else (if gok x5 6 = true then ((f_X10_sits_54 n) x1 x2 x3 (x4 + (A 15 (x5).toNatClampNeg)) (x5 + (1 : Int32)) F A T) else none)) := rfl
noncomputable def f_X10_sits (a0 a1 a2 : Int32) (F : ZF) (A : ZA) (T : Int64) : Option (Int32 × ZS) :=
  (if (f_X10_within a0 (1 : Int32) (60 : Int32)) = 0 then (some ((-1 : Int32), F, A, T)) else (if (f_X10_isSuspect a1 F A T) = 0 then (some ((-1 : Int32), F, A, T)) else (if (f_X10_within a2 (0 : Int32) (a0 - (1 : Int32))) = 0 then (some ((-1 : Int32), F, A, T)) else (Option.bind (f_X10_weighNow F A T) fun q7 => (Option.bind (f_X10_cellsNeeded a0 q7.1 q7.2.1 q7.2.2) fun q10 => (if q10 = (-9 : Int32) then (some ((-9 : Int32), q7.1, q7.2.1, q7.2.2)) else (f_X10_sits_54 1000 a0 a1 a2 (0 : Int32) (0 : Int32) q7.1 q7.2.1 q7.2.2)))))))
noncomputable def f_X10_wrongTo (a0 : Int32) (F : ZF) (A : ZA) (T : Int64) : Option Int32 :=
  (if gok a0 6 = true then (if gok a0 6 = true then (some ((A 15 (a0).toNatClampNeg) - (if (((F 12) * (A 14 (a0).toNatClampNeg)) / (20 : Int32)) < (F 12) then (((F 12) * (A 14 (a0).toNatClampNeg)) / (20 : Int32)) else (F 12)))) else none) else none)
noncomputable def f_X10_wronged_34 (n : Nat) : Int32 → Int32 → ZF → ZA → Int64 → Option (Int32 × ZS) :=
  @Nat.rec (fun _ => Int32 → Int32 → ZF → ZA → Int64 → Option (Int32 × ZS)) (fun _ _ _ _ _ => none) (fun _ K34 x2 x3 F A T =>
  (if (F 22) ≤ x3 then (some (x2, F, A, T)) else (Option.bind (f_X10_wrongTo x3 F A T) fun q12 => (K34 (x2 + (if 0 ≤ q12 then q12 else 0 - q12)) (x3 + (1 : Int32)) F A T)))) n
theorem f_X10_wronged_34_s (n : Nat) (x2 x3 : Int32) (F : ZF) (A : ZA) (T : Int64) : f_X10_wronged_34 (n + 1) x2 x3 F A T =
  (if (F 22) ≤ x3 then (some (x2, F, A, T)) else (Option.bind (f_X10_wrongTo x3 F A T) fun q12 => ((f_X10_wronged_34 n) (x2 + (if 0 ≤ q12 then q12 else 0 - q12)) (x3 + (1 : Int32)) F A T))) := rfl
noncomputable def f_X10_wronged_16 (x1 : Int32) (F : ZF) (A : ZA) (T : Int64) : Option (Int32 × ZS) :=
  (Option.bind (f_X10_weighNow F A T) fun q4 => (if x1 < 0 then (f_X10_wronged_34 1000 (0 : Int32) (0 : Int32) q4.1 q4.2.1 q4.2.2) else (Option.bind (f_X10_wrongTo x1 q4.1 q4.2.1 q4.2.2) fun q8 => (some (q8, q4.1, q4.2.1, q4.2.2)))))
noncomputable def f_X10_wronged (a0 : Int32) (F : ZF) (A : ZA) (T : Int64) : Option (Int32 × ZS) :=
  (if a0 = (-1 : Int32) then (f_X10_wronged_16 a0 F A T) else (if (f_X10_isSuspect a0 F A T) = 0 then (some ((-1000000 : Int32), F, A, T)) else (f_X10_wronged_16 a0 F A T)))
noncomputable def f_X10_book (a0 a1 : Int32) (F : ZF) (A : ZA) (T : Int64) : Option (Int32 × ZS) :=
  (if (f_X10_isSuspect a0 F A T) = 0 then (some ((-1 : Int32), F, A, T)) else (if (f_X10_within a1 (0 : Int32) (60 : Int32)) = 0 then (some ((-1 : Int32), F, A, T)) else (if (F 0) < (6 : Int32) then (if gok (F 0) 6 = true then (if gok (F 0) 6 = true then (some (((upd F 0 ((F 0) + (1 : Int32))) 0), (upd F 0 ((F 0) + (1 : Int32))), (zst (zst A 8 ((F 0)).toNatClampNeg a0) 9 ((F 0)).toNatClampNeg a1), T)) else none) else none) else (some ((-3 : Int32), F, A, T)))))
noncomputable def f_X10_burn (F : ZF) (A : ZA) (T : Int64) : Option (Int32 × ZS) :=
  (some ((F 0), (upd F 0 (0 : Int32)), A, T))
noncomputable def f_X10_fitsBook_28 (n : Nat) : Int32 → ZF → ZA → Int64 → Option (Int32 × ZS) :=
  @Nat.rec (fun _ => Int32 → ZF → ZA → Int64 → Option (Int32 × ZS)) (fun _ _ _ _ => none) (fun _ K28 x2 F A T =>
  (if (F 0) ≤ x2 then (some ((1 : Int32), F, A, T)) else (if gok x2 6 = true then (if gok (A 8 (x2).toNatClampNeg) 6 = true then (if gok x2 6 = true then (if (A 15 ((A 8 (x2).toNatClampNeg)).toNatClampNeg) = (A 9 (x2).toNatClampNeg) then (K28 (x2 + (1 : Int32)) F A T) else (some ((0 : Int32), F, A, T))) else none) else none) else none))) n
theorem f_X10_fitsBook_28_s (n : Nat) (x2 : Int32) (F : ZF) (A : ZA) (T : Int64) : f_X10_fitsBook_28 (n + 1) x2 F A T =
  (if (F 0) ≤ x2 then (some ((1 : Int32), F, A, T)) else (if gok x2 6 = true then (if gok (A 8 (x2).toNatClampNeg) 6 = true then (if gok x2 6 = true then (if (A 15 ((A 8 (x2).toNatClampNeg)).toNatClampNeg) = (A 9 (x2).toNatClampNeg) then ((f_X10_fitsBook_28 n) (x2 + (1 : Int32)) F A T) else (some ((0 : Int32), F, A, T))) else none) else none) else none)) := rfl
noncomputable def f_X10_fitsBook (a0 : Int32) (F : ZF) (A : ZA) (T : Int64) : Option (Int32 × ZS) :=
  (Option.bind (f_X5_weigh a0 F A T) fun q1 => (Option.bind (f_X5_sentence (q1.1 12) q1.1 q1.2.1 q1.2.2) fun q3 => (f_X10_fitsBook_28 1000 (0 : Int32) q3.1 q3.2.1 q3.2.2)))
noncomputable def f_X10_books_78 (K41 : Int32 → Int32 → Int32 → Int32 → Int32 → ZF → ZA → Int64 → Option (Int32 × ZS)) (x1 x2 x3 x4 x5 : Int32) (F : ZF) (A : ZA) (T : Int64) : Option (Int32 × ZS) :=
  (K41 x1 (x2 + (1 : Int32)) x3 (x4 &&& x5) (x5 + (1 : Int32)) F A T)
noncomputable def f_X10_books_41 (n : Nat) : Int32 → Int32 → Int32 → Int32 → Int32 → ZF → ZA → Int64 → Option (Int32 × ZS) :=
  @Nat.rec (fun _ => Int32 → Int32 → Int32 → Int32 → Int32 → ZF → ZA → Int64 → Option (Int32 × ZS)) (fun _ _ _ _ _ _ _ _ => none) (fun _ K41 x1 x2 x3 x4 x5 F A T =>
  (if ((1 : Int32) <<< ((F 23) &&& 31)) ≤ x5 then (if x1 = 0 then (some (x2, F, A, T)) else (if x1 = (1 : Int32) then (some (x3, F, A, T)) else (some (x4, F, A, T)))) else (Option.bind (f_X10_fitsBook x5 F A T) fun q9 => (if q9.1 = 0 then (K41 x1 x2 x3 x4 (x5 + (1 : Int32)) q9.2.1 q9.2.2.1 q9.2.2.2) else (if x2 = 0 then (f_X10_books_78 K41 x1 x2 x5 x5 x5 q9.2.1 q9.2.2.1 q9.2.2.2) else (f_X10_books_78 K41 x1 x2 x3 x4 x5 q9.2.1 q9.2.2.1 q9.2.2.2)))))) n
theorem f_X10_books_41_s (n : Nat) (x1 x2 x3 x4 x5 : Int32) (F : ZF) (A : ZA) (T : Int64) : f_X10_books_41 (n + 1) x1 x2 x3 x4 x5 F A T =
  (if ((1 : Int32) <<< ((F 23) &&& 31)) ≤ x5 then (if x1 = 0 then (some (x2, F, A, T)) else (if x1 = (1 : Int32) then (some (x3, F, A, T)) else (some (x4, F, A, T)))) else (Option.bind (f_X10_fitsBook x5 F A T) fun q9 => (if q9.1 = 0 then ((f_X10_books_41 n) x1 x2 x3 x4 (x5 + (1 : Int32)) q9.2.1 q9.2.2.1 q9.2.2.2) else (if x2 = 0 then (f_X10_books_78 (f_X10_books_41 n) x1 x2 x5 x5 x5 q9.2.1 q9.2.2.1 q9.2.2.2) else (f_X10_books_78 (f_X10_books_41 n) x1 x2 x3 x4 x5 q9.2.1 q9.2.2.1 q9.2.2.2))))) := rfl
noncomputable def f_X10_books (a0 : Int32) (F : ZF) (A : ZA) (T : Int64) : Option (Int32 × ZS) :=
  (if (f_X10_within a0 (0 : Int32) (2 : Int32)) = 0 then (some ((-1 : Int32), F, A, T)) else (Option.bind (f_X5_countHours (F 11) F A T) fun q3 => (f_X10_books_41 1000 a0 (0 : Int32) (-9 : Int32) (-9 : Int32) (0 : Int32) q3.1 q3.2.1 q3.2.2)))
noncomputable def f_X10_innocent_32 (n : Nat) : Int32 → Int32 → Int32 → ZF → ZA → Int64 → Option (Int32 × ZS) :=
  @Nat.rec (fun _ => Int32 → Int32 → Int32 → ZF → ZA → Int64 → Option (Int32 × ZS)) (fun _ _ _ _ _ _ => none) (fun _ K32 x1 x2 x3 F A T =>
  (if ((1 : Int32) <<< ((F 23) &&& 31)) ≤ x3 then (some (x2, F, A, T)) else (Option.bind (f_X5_heldBy x3 x1 F A T) fun q7 => (if q7 = 0 then (K32 x1 (x2 + (1 : Int32)) (x3 + (1 : Int32)) F A T) else (K32 x1 x2 (x3 + (1 : Int32)) F A T))))) n
theorem f_X10_innocent_32_s (n : Nat) (x1 x2 x3 : Int32) (F : ZF) (A : ZA) (T : Int64) : f_X10_innocent_32 (n + 1) x1 x2 x3 F A T =
  (if ((1 : Int32) <<< ((F 23) &&& 31)) ≤ x3 then (some (x2, F, A, T)) else (Option.bind (f_X5_heldBy x3 x1 F A T) fun q7 => (if q7 = 0 then ((f_X10_innocent_32 n) x1 (x2 + (1 : Int32)) (x3 + (1 : Int32)) F A T) else ((f_X10_innocent_32 n) x1 x2 (x3 + (1 : Int32)) F A T)))) := rfl
noncomputable def f_X10_innocent (a0 : Int32) (F : ZF) (A : ZA) (T : Int64) : Option (Int32 × ZS) :=
  (if (f_X10_isSuspect a0 F A T) = 0 then (some ((-1 : Int32), F, A, T)) else (Option.bind (f_X5_countHours (F 11) F A T) fun q3 => (f_X10_innocent_32 1000 a0 (0 : Int32) (0 : Int32) q3.1 q3.2.1 q3.2.2)))
noncomputable def f_X6_become_19_3 (F : ZF) (A : ZA) (T : Int64) : Option ZS :=
  (some ((upd (upd (upd (upd F 14 (F 10)) 15 ((upd F 14 (F 10)) 11)) 16 ((upd (upd F 14 (F 10)) 15 ((upd F 14 (F 10)) 11)) 12)) 17 ((upd (upd (upd F 14 (F 10)) 15 ((upd F 14 (F 10)) 11)) 16 ((upd (upd F 14 (F 10)) 15 ((upd F 14 (F 10)) 11)) 12)) 13)), (zrw A 21 (va_cpy (A 18) (A 21) ((0 : Int32)).toNatClampNeg ((0 : Int32)).toNatClampNeg ((10 : Int32)).toNatClampNeg)), T))
noncomputable def f_X6_become_20_3 (F : ZF) (A : ZA) (T : Int64) : Option ZS :=
  (some ((upd (upd (upd (upd F 18 (F 10)) 19 ((upd F 18 (F 10)) 11)) 20 ((upd (upd F 18 (F 10)) 19 ((upd F 18 (F 10)) 11)) 12)) 21 ((upd (upd (upd F 18 (F 10)) 19 ((upd F 18 (F 10)) 11)) 20 ((upd (upd F 18 (F 10)) 19 ((upd F 18 (F 10)) 11)) 12)) 13)), (zrw A 22 (va_cpy (A 18) (A 22) ((0 : Int32)).toNatClampNeg ((0 : Int32)).toNatClampNeg ((10 : Int32)).toNatClampNeg)), T))
noncomputable def f_X10_keep (a0 : Int32) (F : ZF) (A : ZA) (T : Int64) : Option (Int32 × ZS) :=
  (if (f_X10_within a0 (0 : Int32) (1 : Int32)) = 0 then (some ((-1 : Int32), F, A, T)) else (if a0 = (0 : Int32) then (Option.bind (f_X6_become_19_3 F A T) fun q4 => (if gok a0 2 = true then (Option.bind (f_X10_caseNow q4.1 (zst q4.2.1 5 (a0).toNatClampNeg (vp_nar .boolean (1 : Int32))) q4.2.2) fun q8 => (some (q8.1, q8.2.1, q8.2.2.1, q8.2.2.2))) else none)) else (if a0 = (1 : Int32) then (Option.bind (f_X6_become_20_3 F A T) fun q11 => (if gok a0 2 = true then (Option.bind (f_X10_caseNow q11.1 (zst q11.2.1 5 (a0).toNatClampNeg (vp_nar .boolean (1 : Int32))) q11.2.2) fun q15 => (some (q15.1, q15.2.1, q15.2.2.1, q15.2.2.2))) else none)) else none)))
noncomputable def f_X6_become_3_19 (F : ZF) (A : ZA) (T : Int64) : Option ZS :=
  (some ((upd (upd (upd (upd F 10 (F 14)) 11 ((upd F 10 (F 14)) 15)) 12 ((upd (upd F 10 (F 14)) 11 ((upd F 10 (F 14)) 15)) 16)) 13 ((upd (upd (upd F 10 (F 14)) 11 ((upd F 10 (F 14)) 15)) 12 ((upd (upd F 10 (F 14)) 11 ((upd F 10 (F 14)) 15)) 16)) 17)), (zrw A 18 (va_cpy (A 21) (A 18) ((0 : Int32)).toNatClampNeg ((0 : Int32)).toNatClampNeg ((10 : Int32)).toNatClampNeg)), T))
noncomputable def f_X6_become_3_20 (F : ZF) (A : ZA) (T : Int64) : Option ZS :=
  (some ((upd (upd (upd (upd F 10 (F 18)) 11 ((upd F 10 (F 18)) 19)) 12 ((upd (upd F 10 (F 18)) 11 ((upd F 10 (F 18)) 19)) 20)) 13 ((upd (upd (upd F 10 (F 18)) 11 ((upd F 10 (F 18)) 19)) 12 ((upd (upd F 10 (F 18)) 11 ((upd F 10 (F 18)) 19)) 20)) 21)), (zrw A 18 (va_cpy (A 22) (A 18) ((0 : Int32)).toNatClampNeg ((0 : Int32)).toNatClampNeg ((10 : Int32)).toNatClampNeg)), T))
noncomputable def f_X10_back (a0 : Int32) (F : ZF) (A : ZA) (T : Int64) : Option (Int32 × ZS) :=
  (if (f_X10_within a0 (0 : Int32) (1 : Int32)) = 0 then (some ((-1 : Int32), F, A, T)) else (if gok a0 2 = true then (if (A 5 (a0).toNatClampNeg) = 0 then (some ((-2 : Int32), F, A, T)) else (if a0 = (0 : Int32) then (Option.bind (f_X6_become_3_19 F A T) fun q6 => (Option.bind (f_X10_caseNow q6.1 q6.2.1 q6.2.2) fun q9 => (some (q9.1, q9.2.1, q9.2.2.1, q9.2.2.2)))) else (if a0 = (1 : Int32) then (Option.bind (f_X6_become_3_20 F A T) fun q12 => (Option.bind (f_X10_caseNow q12.1 q12.2.1 q12.2.2) fun q15 => (some (q15.1, q15.2.1, q15.2.2.1, q15.2.2.2)))) else none))) else none))
noncomputable def f_X10_count (a0 : Int32) (F : ZF) (A : ZA) (T : Int64) : Int32 :=
  (if a0 = (0 : Int32) then ((F 22)) else (if a0 = (1 : Int32) then ((F 23)) else (if a0 = (2 : Int32) then ((F 24)) else (if a0 = (3 : Int32) then ((F 0)) else (if a0 = (4 : Int32) then ((F 13)) else (if a0 = (5 : Int32) then ((F 1)) else ((-1 : Int32))))))))
noncomputable def f_X10_trace (F : ZF) (A : ZA) (T : Int64) : Int64 :=
  T
noncomputable def f_X1_beginAnew_11 (F : ZF) (A : ZA) (T : Int64) : Option ZS :=
  (some ((upd (upd (upd (upd (upd (upd F 28 (0 : Int32)) 29 (0 : Int32)) 30 (0 : Int32)) 31 (8 : Int32)) 32 (15 : Int32)) 33 (10 : Int32)), A, T))
noncomputable def f_X7_takeNumber_115 (y0 : Int32) (F : ZF) (A : ZA) (T : Int64) : Option ZS :=
  (some ((upd F 3 y0), A, T))
noncomputable def f_X7_takeNumber_83 (x1 : Int32) (F : ZF) (A : ZA) (T : Int64) : Option ZS :=
  (if (2 : Int32) < ((F 2) - (F 4)) then (f_X7_takeNumber_115 (4 : Int32) F A T) else (if ((F 2) - (F 4)) = (2 : Int32) then (if x1 = (48 : Int32) then (f_X7_takeNumber_115 (4 : Int32) F A T) else (f_X7_takeNumber_115 (2 : Int32) F A T)) else (f_X7_takeNumber_115 (2 : Int32) F A T)))
noncomputable def f_X7_takeNumber_10 (n : Nat) : Int32 → ZF → ZA → Int64 → Option ZS :=
  @Nat.rec (fun _ => Int32 → ZF → ZA → Int64 → Option ZS) (fun _ _ _ _ => none) (fun _ K10 x1 F A T =>
  (if (F 1) ≤ (F 2) then (f_X7_takeNumber_83 x1 F A T) else (if gok (F 2) 200 = true then (if (f_X10_within (A 12 ((F 2)).toNatClampNeg) (48 : Int32) (57 : Int32)) = 0 then (f_X7_takeNumber_83 x1 F A T) else (if gok (F 2) 200 = true then (K10 x1 (upd (upd F 5 (if (1000 : Int32) < ((((F 5) * (10 : Int32)) + (A 12 ((F 2)).toNatClampNeg)) - (48 : Int32)) then (1000 : Int32) else ((((F 5) * (10 : Int32)) + (A 12 ((F 2)).toNatClampNeg)) - (48 : Int32)))) 2 (((upd F 5 (if (1000 : Int32) < ((((F 5) * (10 : Int32)) + (A 12 ((F 2)).toNatClampNeg)) - (48 : Int32)) then (1000 : Int32) else ((((F 5) * (10 : Int32)) + (A 12 ((F 2)).toNatClampNeg)) - (48 : Int32)))) 2) + (1 : Int32))) A T) else none)) else none))) n
theorem f_X7_takeNumber_10_s (n : Nat) (x1 : Int32) (F : ZF) (A : ZA) (T : Int64) : f_X7_takeNumber_10 (n + 1) x1 F A T =
  (if (F 1) ≤ (F 2) then (f_X7_takeNumber_83 x1 F A T) else (if gok (F 2) 200 = true then (if (f_X10_within (A 12 ((F 2)).toNatClampNeg) (48 : Int32) (57 : Int32)) = 0 then (f_X7_takeNumber_83 x1 F A T) else (if gok (F 2) 200 = true then ((f_X7_takeNumber_10 n) x1 (upd (upd F 5 (if (1000 : Int32) < ((((F 5) * (10 : Int32)) + (A 12 ((F 2)).toNatClampNeg)) - (48 : Int32)) then (1000 : Int32) else ((((F 5) * (10 : Int32)) + (A 12 ((F 2)).toNatClampNeg)) - (48 : Int32)))) 2 (((upd F 5 (if (1000 : Int32) < ((((F 5) * (10 : Int32)) + (A 12 ((F 2)).toNatClampNeg)) - (48 : Int32)) then (1000 : Int32) else ((((F 5) * (10 : Int32)) + (A 12 ((F 2)).toNatClampNeg)) - (48 : Int32)))) 2) + (1 : Int32))) A T) else none)) else none)) := rfl
noncomputable def f_X7_takeNumber (F : ZF) (A : ZA) (T : Int64) : Option ZS :=
  (if gok (F 2) 200 = true then (f_X7_takeNumber_10 1000 (A 12 ((F 2)).toNatClampNeg) F A T) else none)
noncomputable def f_X7_takeLetters_77 (y0 : Int32) (F : ZF) (A : ZA) (T : Int64) : Option ZS :=
  (some ((upd F 5 y0), A, T))
noncomputable def f_X7_takeLetters_53 (x1 : Int32) (F : ZF) (A : ZA) (T : Int64) : Option ZS :=
  (if (((upd F 3 (1 : Int32)) 2) - ((upd F 3 (1 : Int32)) 4)) = (1 : Int32) then (f_X7_takeLetters_77 x1 (upd F 3 (1 : Int32)) A T) else (f_X7_takeLetters_77 (0 : Int32) (upd F 3 (1 : Int32)) A T))
noncomputable def f_X7_takeLetters_10 (n : Nat) : Int32 → ZF → ZA → Int64 → Option ZS :=
  @Nat.rec (fun _ => Int32 → ZF → ZA → Int64 → Option ZS) (fun _ _ _ _ => none) (fun _ K10 x1 F A T =>
  (if (F 1) ≤ (F 2) then (f_X7_takeLetters_53 x1 F A T) else (if gok (F 2) 200 = true then (if (f_X10_within (A 12 ((F 2)).toNatClampNeg) (97 : Int32) (122 : Int32)) = 0 then (f_X7_takeLetters_53 x1 F A T) else (K10 x1 (upd F 2 ((F 2) + (1 : Int32))) A T)) else none))) n
theorem f_X7_takeLetters_10_s (n : Nat) (x1 : Int32) (F : ZF) (A : ZA) (T : Int64) : f_X7_takeLetters_10 (n + 1) x1 F A T =
  (if (F 1) ≤ (F 2) then (f_X7_takeLetters_53 x1 F A T) else (if gok (F 2) 200 = true then (if (f_X10_within (A 12 ((F 2)).toNatClampNeg) (97 : Int32) (122 : Int32)) = 0 then (f_X7_takeLetters_53 x1 F A T) else ((f_X7_takeLetters_10 n) x1 (upd F 2 ((F 2) + (1 : Int32))) A T)) else none)) := rfl
noncomputable def f_X7_takeLetters (F : ZF) (A : ZA) (T : Int64) : Option ZS :=
  (if gok (F 2) 200 = true then (f_X7_takeLetters_10 1000 (A 12 ((F 2)).toNatClampNeg) F A T) else none)
noncomputable def f_X7_nextToken_38 (F : ZF) (A : ZA) (T : Int64) : Option ZS :=
  (if ((upd (upd F 4 (F 2)) 5 (0 : Int32)) 2) < ((upd (upd F 4 (F 2)) 5 (0 : Int32)) 1) then (if gok ((upd (upd F 4 (F 2)) 5 (0 : Int32)) 2) 200 = true then (if (A 12 (((upd (upd F 4 (F 2)) 5 (0 : Int32)) 2)).toNatClampNeg) = (59 : Int32) then (some ((upd (upd (upd (upd F 4 (F 2)) 5 (0 : Int32)) 3 (3 : Int32)) 2 (((upd (upd (upd F 4 (F 2)) 5 (0 : Int32)) 3 (3 : Int32)) 2) + (1 : Int32))), A, T)) else (if gok ((upd (upd F 4 (F 2)) 5 (0 : Int32)) 2) 200 = true then (if (f_X10_within (A 12 (((upd (upd F 4 (F 2)) 5 (0 : Int32)) 2)).toNatClampNeg) (97 : Int32) (122 : Int32)) = 0 then (if gok ((upd (upd F 4 (F 2)) 5 (0 : Int32)) 2) 200 = true then (if (f_X10_within (A 12 (((upd (upd F 4 (F 2)) 5 (0 : Int32)) 2)).toNatClampNeg) (48 : Int32) (57 : Int32)) = 0 then (some ((upd (upd (upd F 4 (F 2)) 5 (0 : Int32)) 3 (4 : Int32)), A, T)) else (Option.bind (f_X7_takeNumber (upd (upd F 4 (F 2)) 5 (0 : Int32)) A T) fun q13 => (some (q13.1, q13.2.1, q13.2.2)))) else none) else (Option.bind (f_X7_takeLetters (upd (upd F 4 (F 2)) 5 (0 : Int32)) A T) fun q15 => (some (q15.1, q15.2.1, q15.2.2)))) else none)) else none) else (some ((upd (upd (upd F 4 (F 2)) 5 (0 : Int32)) 3 (0 : Int32)), A, T)))
noncomputable def f_X7_nextToken_0 (n : Nat) : ZF → ZA → Int64 → Option ZS :=
  @Nat.rec (fun _ => ZF → ZA → Int64 → Option ZS) (fun _ _ _ => none) (fun _ K0 F A T =>
  (if (F 1) ≤ (F 2) then (f_X7_nextToken_38 F A T) else (if gok (F 2) 200 = true then (if (A 12 ((F 2)).toNatClampNeg) = (32 : Int32) then (K0 (upd F 2 ((F 2) + (1 : Int32))) A T) else (f_X7_nextToken_38 F A T)) else none))) n
theorem f_X7_nextToken_0_s (n : Nat) (F : ZF) (A : ZA) (T : Int64) : f_X7_nextToken_0 (n + 1) F A T =
  (if (F 1) ≤ (F 2) then (f_X7_nextToken_38 F A T) else (if gok (F 2) 200 = true then (if (A 12 ((F 2)).toNatClampNeg) = (32 : Int32) then ((f_X7_nextToken_0 n) (upd F 2 ((F 2) + (1 : Int32))) A T) else (f_X7_nextToken_38 F A T)) else none)) := rfl
noncomputable def f_X7_nextToken (F : ZF) (A : ZA) (T : Int64) : Option ZS :=
  f_X7_nextToken_0 1000 F A T
noncomputable def f_X7_mayBegin (a0 : Int32) (F : ZF) (A : ZA) (T : Int64) : Int32 :=
  (if a0 = (97 : Int32) then (if (8 : Int32) ≤ (F 30) then ((0 : Int32)) else ((1 : Int32))) else (if a0 = (100 : Int32) then (if (F 7) = 0 then ((1 : Int32)) else ((0 : Int32))) else (if a0 = (102 : Int32) then (if (8 : Int32) ≤ (F 29) then ((0 : Int32)) else ((1 : Int32))) else (if a0 = (115 : Int32) then (if (6 : Int32) ≤ (F 28) then ((0 : Int32)) else ((1 : Int32))) else (if a0 = (116 : Int32) then (if (F 6) = 0 then ((1 : Int32)) else ((0 : Int32))) else ((0 : Int32)))))))
noncomputable def f_X7_numbersDue (a0 : Int32) (F : ZF) (A : ZA) (T : Int64) : Int32 :=
  (if a0 = (97 : Int32) then ((4 : Int32)) else (if a0 = (102 : Int32) then (((2 : Int32) + (F 28))) else (if a0 = (116 : Int32) then ((2 : Int32)) else ((1 : Int32)))))
noncomputable def f_X1_addAlibi (F : ZF) (A : ZA) (T : Int64) : Option ZS :=
  (if gok (F 30) 8 = true then (if gok (F 30) 8 = true then (if gok (F 30) 8 = true then (if gok (F 30) 8 = true then (some ((upd F 30 ((F 30) + (1 : Int32))), (zst (zst (zst (zst A 43 ((F 30)).toNatClampNeg (A 13 ((0 : Int32)).toNatClampNeg)) 44 ((F 30)).toNatClampNeg ((zst A 43 ((F 30)).toNatClampNeg (A 13 ((0 : Int32)).toNatClampNeg)) 13 ((1 : Int32)).toNatClampNeg)) 45 ((F 30)).toNatClampNeg ((zst (zst A 43 ((F 30)).toNatClampNeg (A 13 ((0 : Int32)).toNatClampNeg)) 44 ((F 30)).toNatClampNeg ((zst A 43 ((F 30)).toNatClampNeg (A 13 ((0 : Int32)).toNatClampNeg)) 13 ((1 : Int32)).toNatClampNeg)) 13 ((2 : Int32)).toNatClampNeg)) 46 ((F 30)).toNatClampNeg ((zst (zst (zst A 43 ((F 30)).toNatClampNeg (A 13 ((0 : Int32)).toNatClampNeg)) 44 ((F 30)).toNatClampNeg ((zst A 43 ((F 30)).toNatClampNeg (A 13 ((0 : Int32)).toNatClampNeg)) 13 ((1 : Int32)).toNatClampNeg)) 45 ((F 30)).toNatClampNeg ((zst (zst A 43 ((F 30)).toNatClampNeg (A 13 ((0 : Int32)).toNatClampNeg)) 44 ((F 30)).toNatClampNeg ((zst A 43 ((F 30)).toNatClampNeg (A 13 ((0 : Int32)).toNatClampNeg)) 13 ((1 : Int32)).toNatClampNeg)) 13 ((2 : Int32)).toNatClampNeg)) 13 ((3 : Int32)).toNatClampNeg)), T)) else none) else none) else none) else none)
noncomputable def f_X1_addFact_52 (K26 : Int32 → ZF → ZA → Int64 → Option ZS) (x2 y0 : Int32) (F : ZF) (A : ZA) (T : Int64) : Option ZS :=
  (if gok (((F 29) * (6 : Int32)) + x2) 48 = true then (if gok (((F 29) * (6 : Int32)) + x2) 48 = true then (K26 (x2 + (1 : Int32)) F (zst (zst A 41 ((((F 29) * (6 : Int32)) + x2)).toNatClampNeg y0) 42 ((((F 29) * (6 : Int32)) + x2)).toNatClampNeg ((y0 * ((zst A 41 ((((F 29) * (6 : Int32)) + x2)).toNatClampNeg y0) 13 ((1 : Int32)).toNatClampNeg)) / (10 : Int32))) T) else none) else none)
noncomputable def f_X1_addFact_26 (n : Nat) : Int32 → ZF → ZA → Int64 → Option ZS :=
  @Nat.rec (fun _ => Int32 → ZF → ZA → Int64 → Option ZS) (fun _ _ _ _ => none) (fun _ K26 x2 F A T =>
  (if (6 : Int32) ≤ x2 then (some ((upd F 29 ((F 29) + (1 : Int32))), A, T)) else (if (F 28) ≤ x2 then (f_X1_addFact_52 K26 x2 (0 : Int32) F A T) else (if gok ((2 : Int32) + x2) 8 = true then (f_X1_addFact_52 K26 x2 ((A 13 (((2 : Int32) + x2)).toNatClampNeg) - (9 : Int32)) F A T) else none)))) n
theorem f_X1_addFact_26_s (n : Nat) (x2 : Int32) (F : ZF) (A : ZA) (T : Int64) : f_X1_addFact_26 (n + 1) x2 F A T =
  (if (6 : Int32) ≤ x2 then (some ((upd F 29 ((F 29) + (1 : Int32))), A, T)) else (if (F 28) ≤ x2 then (f_X1_addFact_52 (f_X1_addFact_26 n) x2 (0 : Int32) F A T) else (if gok ((2 : Int32) + x2) 8 = true then (f_X1_addFact_52 (f_X1_addFact_26 n) x2 ((A 13 (((2 : Int32) + x2)).toNatClampNeg) - (9 : Int32)) F A T) else none))) := rfl
noncomputable def f_X1_addFact (F : ZF) (A : ZA) (T : Int64) : Option ZS :=
  (if gok (F 29) 8 = true then (if gok (F 29) 8 = true then (f_X1_addFact_26 1000 (0 : Int32) F (zst (zst A 39 ((F 29)).toNatClampNeg (A 13 ((0 : Int32)).toNatClampNeg)) 40 ((F 29)).toNatClampNeg ((zst A 39 ((F 29)).toNatClampNeg (A 13 ((0 : Int32)).toNatClampNeg)) 13 ((1 : Int32)).toNatClampNeg)) T) else none) else none)
noncomputable def f_X1_addSuspect (a0 : Int32) (F : ZF) (A : ZA) (T : Int64) : Option ZS :=
  (if gok (F 28) 6 = true then (some ((upd F 28 ((F 28) + (1 : Int32))), (zst A 38 ((F 28)).toNatClampNeg a0), T)) else none)
noncomputable def f_X7_addItem (a0 : Int32) (F : ZF) (A : ZA) (T : Int64) : Option ZS :=
  (if a0 = (97 : Int32) then (Option.bind (f_X1_addAlibi F A T) fun q2 => (some (q2.1, q2.2.1, q2.2.2))) else (if a0 = (102 : Int32) then (Option.bind (f_X1_addFact F A T) fun q5 => (some (q5.1, q5.2.1, q5.2.2))) else (if a0 = (115 : Int32) then (Option.bind (f_X1_addSuspect (A 13 ((0 : Int32)).toNatClampNeg) F A T) fun q8 => (some (q8.1, q8.2.1, q8.2.2))) else (if a0 = (116 : Int32) then (some ((upd (upd (upd F 31 (A 13 ((0 : Int32)).toNatClampNeg)) 32 (A 13 ((1 : Int32)).toNatClampNeg)) 6 (1 : Int32)), A, T)) else (some ((upd (upd F 33 (A 13 ((0 : Int32)).toNatClampNeg)) 7 (1 : Int32)), A, T))))))
noncomputable def f_X7_least_30 (F : ZF) (A : ZA) (T : Int64) (x1 x2 : Int32) : Int32 :=
  (if x1 = (116 : Int32) then (if x2 = (1 : Int32) then ((A 13 ((0 : Int32)).toNatClampNeg)) else ((0 : Int32))) else ((0 : Int32)))
noncomputable def f_X7_least_12 (F : ZF) (A : ZA) (T : Int64) (x1 x2 : Int32) : Int32 :=
  (if x1 = (97 : Int32) then (if x2 = (3 : Int32) then ((A 13 ((2 : Int32)).toNatClampNeg)) else (f_X7_least_30 F A T x1 x2)) else (f_X7_least_30 F A T x1 x2))
noncomputable def f_X7_least (a0 a1 : Int32) (F : ZF) (A : ZA) (T : Int64) : Int32 :=
  (if a0 = (102 : Int32) then (if a1 = 0 then ((1 : Int32)) else (f_X7_least_12 F A T a0 a1)) else (f_X7_least_12 F A T a0 a1))
noncomputable def f_X7_most (a0 a1 : Int32) (F : ZF) (A : ZA) (T : Int64) : Int32 :=
  (if a0 = (97 : Int32) then (if a1 = 0 then (((F 28) - (1 : Int32))) else (if a1 = (1 : Int32) then ((3 : Int32)) else ((23 : Int32)))) else (if a0 = (102 : Int32) then (if a1 = 0 then ((9 : Int32)) else (if a1 = (1 : Int32) then ((10 : Int32)) else ((18 : Int32)))) else (if a0 = (115 : Int32) then ((20 : Int32)) else (if a0 = (116 : Int32) then ((23 : Int32)) else ((60 : Int32))))))
noncomputable def f_X7_readItem_36 (n : Nat) : Int32 → Int32 → Int32 → ZF → ZA → Int64 → Option (Int32 × ZS) :=
  @Nat.rec (fun _ => Int32 → Int32 → Int32 → ZF → ZA → Int64 → Option (Int32 × ZS)) (fun _ _ _ _ _ _ => none) (fun _ K36 x2 x3 x4 F A T =>
  (if x3 ≤ x4 then (Option.bind (f_X7_nextToken F A T) fun q6 => (if (q6.1 3) = (3 : Int32) then (Option.bind (f_X7_addItem x2 q6.1 q6.2.1 q6.2.2) fun q9 => (some ((1 : Int32), q9.1, q9.2.1, q9.2.2))) else (some ((0 : Int32), q6.1, q6.2.1, q6.2.2)))) else (Option.bind (f_X7_nextToken F A T) fun q11 => (if (q11.1 3) = (2 : Int32) then (if (f_X10_within (q11.1 5) (f_X7_least x2 x4 q11.1 q11.2.1 q11.2.2) (f_X7_most x2 x4 q11.1 q11.2.1 q11.2.2)) = 0 then (some ((0 : Int32), q11.1, q11.2.1, q11.2.2)) else (if gok x4 8 = true then (K36 x2 x3 (x4 + (1 : Int32)) q11.1 (zst q11.2.1 13 (x4).toNatClampNeg (q11.1 5)) q11.2.2) else none)) else (some ((0 : Int32), q11.1, q11.2.1, q11.2.2)))))) n
theorem f_X7_readItem_36_s (n : Nat) (x2 x3 x4 : Int32) (F : ZF) (A : ZA) (T : Int64) : f_X7_readItem_36 (n + 1) x2 x3 x4 F A T =
  (if x3 ≤ x4 then (Option.bind (f_X7_nextToken F A T) fun q6 => (if (q6.1 3) = (3 : Int32) then (Option.bind (f_X7_addItem x2 q6.1 q6.2.1 q6.2.2) fun q9 => (some ((1 : Int32), q9.1, q9.2.1, q9.2.2))) else (some ((0 : Int32), q6.1, q6.2.1, q6.2.2)))) else (Option.bind (f_X7_nextToken F A T) fun q11 => (if (q11.1 3) = (2 : Int32) then (if (f_X10_within (q11.1 5) (f_X7_least x2 x4 q11.1 q11.2.1 q11.2.2) (f_X7_most x2 x4 q11.1 q11.2.1 q11.2.2)) = 0 then (some ((0 : Int32), q11.1, q11.2.1, q11.2.2)) else (if gok x4 8 = true then ((f_X7_readItem_36 n) x2 x3 (x4 + (1 : Int32)) q11.1 (zst q11.2.1 13 (x4).toNatClampNeg (q11.1 5)) q11.2.2) else none)) else (some ((0 : Int32), q11.1, q11.2.1, q11.2.2))))) := rfl
noncomputable def f_X7_readItem (F : ZF) (A : ZA) (T : Int64) : Option (Int32 × ZS) :=
  (if (F 3) = (1 : Int32) then (if (f_X7_mayBegin (F 5) F A T) = 0 then (some ((0 : Int32), F, A, T)) else (f_X7_readItem_36 1000 (F 5) (f_X7_numbersDue (F 5) F A T) (0 : Int32) F A T)) else (some ((0 : Int32), F, A, T)))
noncomputable def f_X7_readInto_21 (n : Nat) : Int32 → ZF → ZA → Int64 → Option (Int32 × ZS) :=
  @Nat.rec (fun _ => Int32 → ZF → ZA → Int64 → Option (Int32 × ZS)) (fun _ _ _ _ => none) (fun _ K21 x2 F A T =>
  (if (200 : Int32) < x2 then (some (((-10 : Int32) - (F 1)), F, A, T)) else (Option.bind (f_X7_nextToken F A T) fun q4 => (if (q4.1 3) = 0 then (some (x2, q4.1, q4.2.1, q4.2.2)) else (Option.bind (f_X7_readItem q4.1 q4.2.1 q4.2.2) fun q8 => (if q8.1 = 0 then (some (((-10 : Int32) - (q8.2.1 4)), q8.2.1, q8.2.2.1, q8.2.2.2)) else (K21 (x2 + (1 : Int32)) q8.2.1 q8.2.2.1 q8.2.2.2))))))) n
theorem f_X7_readInto_21_s (n : Nat) (x2 : Int32) (F : ZF) (A : ZA) (T : Int64) : f_X7_readInto_21 (n + 1) x2 F A T =
  (if (200 : Int32) < x2 then (some (((-10 : Int32) - (F 1)), F, A, T)) else (Option.bind (f_X7_nextToken F A T) fun q4 => (if (q4.1 3) = 0 then (some (x2, q4.1, q4.2.1, q4.2.2)) else (Option.bind (f_X7_readItem q4.1 q4.2.1 q4.2.2) fun q8 => (if q8.1 = 0 then (some (((-10 : Int32) - (q8.2.1 4)), q8.2.1, q8.2.2.1, q8.2.2.2)) else ((f_X7_readInto_21 n) (x2 + (1 : Int32)) q8.2.1 q8.2.2.1 q8.2.2.2)))))) := rfl
noncomputable def f_X7_readInto (F : ZF) (A : ZA) (T : Int64) : Option (Int32 × ZS) :=
  (Option.bind (f_X1_beginAnew_11 F A T) fun q1 => (f_X7_readInto_21 1000 (0 : Int32) (upd (upd (upd q1.1 2 (0 : Int32)) 6 (0 : Int32)) 7 (0 : Int32)) q1.2.1 q1.2.2))
noncomputable def f_X6_beginAnew (a0 : Int32) (F : ZF) (A : ZA) (T : Int64) : Option ZS :=
  (some ((upd (upd (upd (upd F 10 (0 : Int32)) 11 (0 : Int32)) 12 a0) 13 (0 : Int32)), A, T))
noncomputable def f_X10_court_65 (n : Nat) : Int32 → Int32 → ZF → ZA → Int64 → Option (Int32 × ZS) :=
  @Nat.rec (fun _ => Int32 → Int32 → ZF → ZA → Int64 → Option (Int32 × ZS)) (fun _ _ _ _ _ => none) (fun _ K65 x1 x3 F A T =>
  (if (2 : Int32) ≤ x3 then (some (x1, F, A, T)) else (if gok x3 2 = true then (K65 x1 (x3 + (1 : Int32)) F (zst A 5 (x3).toNatClampNeg (vp_nar .boolean (0 : Int32))) T) else none))) n
theorem f_X10_court_65_s (n : Nat) (x1 x3 : Int32) (F : ZF) (A : ZA) (T : Int64) : f_X10_court_65 (n + 1) x1 x3 F A T =
  (if (2 : Int32) ≤ x3 then (some (x1, F, A, T)) else (if gok x3 2 = true then ((f_X10_court_65 n) x1 (x3 + (1 : Int32)) F (zst A 5 (x3).toNatClampNeg (vp_nar .boolean (0 : Int32))) T) else none)) := rfl
noncomputable def f_X10_court (F : ZF) (A : ZA) (T : Int64) : Option (Int32 × ZS) :=
  (Option.bind (f_X7_readInto F A T) fun q2 => (if 0 ≤ q2.1 then (Option.bind (f_X6_beginAnew ((upd (zswF q2.2.1) 1 (0 : Int32)) 27) (upd (zswF q2.2.1) 1 (0 : Int32)) (zswA q2.2.2.1) q2.2.2.2) fun q5 => (f_X10_court_65 1000 q2.1 (0 : Int32) (upd q5.1 0 (0 : Int32)) q5.2.1 q5.2.2)) else (some (q2.1, q2.2.1, q2.2.2.1, q2.2.2.2))))
noncomputable def f_X0_markOf_23_0 (a0 : Int32) (F : ZF) (A : ZA) (T : Int64) : Option (Int32 × ZS) :=
  (if gok a0 6 = true then (some ((A 14 (a0).toNatClampNeg), F, A, (T + (1 : Int64)))) else none)
noncomputable def f_X0_markOf_24_0 (a0 : Int32) (F : ZF) (A : ZA) (T : Int64) : Option (Int32 × ZS) :=
  (if gok a0 6 = true then (some ((A 14 (a0).toNatClampNeg), F, A, (T + (1 : Int64)))) else none)
noncomputable def f_X8_markOf_24_0 (a0 : Int32) (F : ZF) (A : ZA) (T : Int64) : Option (Int32 × ZS) :=
  (Option.bind (f_X0_markOf_24_0 a0 F A (T + (10 : Int64))) fun q2 => (if gok a0 6 = true then (some ((q2.1 + (q2.2.2.1 29 (a0).toNatClampNeg)), q2.2.1, q2.2.2.1, q2.2.2.2)) else none))
noncomputable def f_X0_markOf_25_0 (a0 : Int32) (F : ZF) (A : ZA) (T : Int64) : Option (Int32 × ZS) :=
  (if gok a0 6 = true then (some ((A 14 (a0).toNatClampNeg), F, A, (T + (1 : Int64)))) else none)
noncomputable def f_X9_markOf_25_0_17 (n : Nat) : Int32 → Int32 → Int32 → ZF → ZA → Int64 → Option (Int32 × ZS) :=
  @Nat.rec (fun _ => Int32 → Int32 → Int32 → ZF → ZA → Int64 → Option (Int32 × ZS)) (fun _ _ _ _ _ _ => none) (fun _ K17 x2 x3 x4 F A T =>
  (if (F 24) ≤ x4 then (Option.bind (f_X0_markOf_25_0 x2 F A T) fun q3 => (some ((q3.1 - x3), q3.2.1, q3.2.2.1, q3.2.2.2))) else (if gok x4 8 = true then (if (A 34 (x4).toNatClampNeg) = x2 then (K17 x2 (x3 + (1 : Int32)) (x4 + (1 : Int32)) F A T) else (K17 x2 x3 (x4 + (1 : Int32)) F A T)) else none))) n
theorem f_X9_markOf_25_0_17_s (n : Nat) (x2 x3 x4 : Int32) (F : ZF) (A : ZA) (T : Int64) : f_X9_markOf_25_0_17 (n + 1) x2 x3 x4 F A T =
  (if (F 24) ≤ x4 then (Option.bind (f_X0_markOf_25_0 x2 F A T) fun q3 => (some ((q3.1 - x3), q3.2.1, q3.2.2.1, q3.2.2.2))) else (if gok x4 8 = true then (if (A 34 (x4).toNatClampNeg) = x2 then ((f_X9_markOf_25_0_17 n) x2 (x3 + (1 : Int32)) (x4 + (1 : Int32)) F A T) else ((f_X9_markOf_25_0_17 n) x2 x3 (x4 + (1 : Int32)) F A T)) else none)) := rfl
noncomputable def f_X9_markOf_25_0 (a0 : Int32) (F : ZF) (A : ZA) (T : Int64) : Option (Int32 × ZS) :=
  (f_X9_markOf_25_0_17 1000 a0 (0 : Int32) (0 : Int32) F A (T + (100 : Int64)))
noncomputable def f_X0_markOf_26_0 (a0 : Int32) (F : ZF) (A : ZA) (T : Int64) : Option (Int32 × ZS) :=
  (if gok a0 6 = true then (some ((A 14 (a0).toNatClampNeg), F, A, (T + (1 : Int64)))) else none)
noncomputable def f_X8_markOf_26_0 (a0 : Int32) (F : ZF) (A : ZA) (T : Int64) : Option (Int32 × ZS) :=
  (Option.bind (f_X0_markOf_26_0 a0 F A (T + (10 : Int64))) fun q2 => (if gok a0 6 = true then (some ((q2.1 + (q2.2.2.1 29 (a0).toNatClampNeg)), q2.2.1, q2.2.2.1, q2.2.2.2)) else none))
noncomputable def f_X2_markOf_26_0 (a0 : Int32) (F : ZF) (A : ZA) (T : Int64) : Option (Int32 × ZS) :=
  (Option.bind (f_X8_markOf_26_0 a0 F A (T + (1000 : Int64))) fun q2 => (some ((q2.1 * (2 : Int32)), q2.2.1, q2.2.2.1, q2.2.2.2)))
noncomputable def f_X0_markOf_27_0 (a0 : Int32) (F : ZF) (A : ZA) (T : Int64) : Option (Int32 × ZS) :=
  (if gok a0 6 = true then (some ((A 14 (a0).toNatClampNeg), F, A, (T + (1 : Int64)))) else none)
noncomputable def f_X9_markOf_27_0_17 (n : Nat) : Int32 → Int32 → Int32 → ZF → ZA → Int64 → Option (Int32 × ZS) :=
  @Nat.rec (fun _ => Int32 → Int32 → Int32 → ZF → ZA → Int64 → Option (Int32 × ZS)) (fun _ _ _ _ _ _ => none) (fun _ K17 x2 x3 x4 F A T =>
  (if (F 24) ≤ x4 then (Option.bind (f_X0_markOf_27_0 x2 F A T) fun q3 => (some ((q3.1 - x3), q3.2.1, q3.2.2.1, q3.2.2.2))) else (if gok x4 8 = true then (if (A 34 (x4).toNatClampNeg) = x2 then (K17 x2 (x3 + (1 : Int32)) (x4 + (1 : Int32)) F A T) else (K17 x2 x3 (x4 + (1 : Int32)) F A T)) else none))) n
theorem f_X9_markOf_27_0_17_s (n : Nat) (x2 x3 x4 : Int32) (F : ZF) (A : ZA) (T : Int64) : f_X9_markOf_27_0_17 (n + 1) x2 x3 x4 F A T =
  (if (F 24) ≤ x4 then (Option.bind (f_X0_markOf_27_0 x2 F A T) fun q3 => (some ((q3.1 - x3), q3.2.1, q3.2.2.1, q3.2.2.2))) else (if gok x4 8 = true then (if (A 34 (x4).toNatClampNeg) = x2 then ((f_X9_markOf_27_0_17 n) x2 (x3 + (1 : Int32)) (x4 + (1 : Int32)) F A T) else ((f_X9_markOf_27_0_17 n) x2 x3 (x4 + (1 : Int32)) F A T)) else none)) := rfl
noncomputable def f_X9_markOf_27_0 (a0 : Int32) (F : ZF) (A : ZA) (T : Int64) : Option (Int32 × ZS) :=
  (f_X9_markOf_27_0_17 1000 a0 (0 : Int32) (0 : Int32) F A (T + (100 : Int64)))
noncomputable def f_X3_markOf_27_0 (a0 : Int32) (F : ZF) (A : ZA) (T : Int64) : Option (Int32 × ZS) :=
  (Option.bind (f_X9_markOf_27_0 a0 F A (T + (10000 : Int64))) fun q2 => (some ((q2.1 + a0), q2.2.1, q2.2.2.1, q2.2.2.2)))
noncomputable def f_X0_markOf_28_0 (a0 : Int32) (F : ZF) (A : ZA) (T : Int64) : Option (Int32 × ZS) :=
  (if gok a0 6 = true then (some ((A 14 (a0).toNatClampNeg), F, A, (T + (1 : Int64)))) else none)
noncomputable def f_X4_markOf_28_0 (a0 : Int32) (F : ZF) (A : ZA) (T : Int64) : Option (Int32 × ZS) :=
  (Option.bind (f_X0_markOf_28_0 a0 F A (T + (100000 : Int64))) fun q2 => (some ((q2.1 + (f_J6_bitCount_0f7a4 (q2.2.1 10))), q2.2.1, q2.2.2.1, q2.2.2.2)))
noncomputable def f_X10_mark (a0 a1 : Int32) (F : ZF) (A : ZA) (T : Int64) : Option (Int32 × ZS) :=
  (if (f_X10_within a0 (0 : Int32) ((6 : Int32) - (1 : Int32))) = 0 then (some ((-1000000 : Int32), F, A, T)) else (if (f_X10_isSuspect a1 F A T) = 0 then (some ((-1000000 : Int32), F, A, T)) else (Option.bind (f_X10_weighNow F A T) fun q5 => (if a0 = (0 : Int32) then (Option.bind (f_X0_markOf_23_0 a1 q5.1 q5.2.1 q5.2.2) fun q9 => (some (q9.1, q9.2.1, q9.2.2.1, q9.2.2.2))) else (if a0 = (1 : Int32) then (Option.bind (f_X8_markOf_24_0 a1 q5.1 q5.2.1 q5.2.2) fun q13 => (some (q13.1, q13.2.1, q13.2.2.1, q13.2.2.2))) else (if a0 = (2 : Int32) then (Option.bind (f_X9_markOf_25_0 a1 q5.1 q5.2.1 q5.2.2) fun q17 => (some (q17.1, q17.2.1, q17.2.2.1, q17.2.2.2))) else (if a0 = (3 : Int32) then (Option.bind (f_X2_markOf_26_0 a1 q5.1 q5.2.1 q5.2.2) fun q21 => (some (q21.1, q21.2.1, q21.2.2.1, q21.2.2.2))) else (if a0 = (4 : Int32) then (Option.bind (f_X3_markOf_27_0 a1 q5.1 q5.2.1 q5.2.2) fun q25 => (some (q25.1, q25.2.1, q25.2.2.1, q25.2.2.2))) else (if a0 = (5 : Int32) then (Option.bind (f_X4_markOf_28_0 a1 q5.1 q5.2.1 q5.2.2) fun q29 => (some (q29.1, q29.2.1, q29.2.2.1, q29.2.2.2))) else none)))))))))
noncomputable def f_X1_beginAnew_10 (F : ZF) (A : ZA) (T : Int64) : Option ZS :=
  (some ((upd (upd (upd (upd (upd (upd F 22 (0 : Int32)) 23 (0 : Int32)) 24 (0 : Int32)) 25 (8 : Int32)) 26 (15 : Int32)) 27 (10 : Int32)), A, T))
