noncomputable def f_X11_clear (F : ZF) (A : ZA) (T : Int64) : Option (Int32 × ZS) :=
  (some ((F 0), (upd F 0 (0 : Int32)), A, T))
noncomputable def f_X11_in (a0 a1 a2 : Int32) : Int32 :=
  (if a0 < a1 then ((0 : Int32)) else (if a2 < a0 then ((0 : Int32)) else ((1 : Int32))))
noncomputable def f_X11_isFact (a0 : Int32) (F : ZF) (A : ZA) (T : Int64) : Int32 :=
  ((f_X11_in a0 (0 : Int32) ((A 4 ((0 : Int32)).toNatClampNeg) - (1 : Int32))))
noncomputable def f_X11_fact (a0 a1 : Int32) (F : ZF) (A : ZA) (T : Int64) : Option Int32 :=
  (if (f_X11_isFact a0 F A T) = 0 then (some (-1 : Int32)) else (if a1 = 0 then (if gok a0 16 = true then (some (A 5 (a0).toNatClampNeg)) else none) else (if a1 = (1 : Int32) then (if gok a0 16 = true then (some (A 6 (a0).toNatClampNeg)) else none) else (if a1 = (2 : Int32) then (some (((A 15 ((0 : Int32)).toNatClampNeg) >>> (a0 &&& 31)) &&& (1 : Int32))) else (some (-1 : Int32))))))
noncomputable def f_X11_isSuspect (a0 : Int32) (F : ZF) (A : ZA) (T : Int64) : Int32 :=
  ((f_X11_in a0 (0 : Int32) ((A 2 ((0 : Int32)).toNatClampNeg) - (1 : Int32))))
noncomputable def f_X11_hoursOf_112 (F : ZF) (A : ZA) (T : Int64) (K9 : Int32 → Int32 → Int32 → Option Int32) (x1 x3 y0 y1 : Int32) : Option Int32 :=
  (K9 x1 (y1 + y0) (x3 + (1 : Int32)))
noncomputable def f_X11_hoursOf_25 (F : ZF) (A : ZA) (T : Int64) (K9 : Int32 → Int32 → Int32 → Option Int32) (n : Nat) : Int32 → Int32 → Int32 → Int32 → Int32 → Option Int32 :=
  @Nat.rec (fun _ => Int32 → Int32 → Int32 → Int32 → Int32 → Option Int32) (fun _ _ _ _ _ => none) (fun _ K25 x1 x2 x3 x4 x5 =>
  (if (A 8 ((0 : Int32)).toNatClampNeg) ≤ x5 then (if x4 = 0 then (f_X11_hoursOf_112 F A T K9 x1 x3 (0 : Int32) x2) else (f_X11_hoursOf_112 F A T K9 x1 x3 (1 : Int32) x2)) else (if x4 = 0 then (if (((A 15 ((1 : Int32)).toNatClampNeg) >>> (x5 &&& 31)) &&& (1 : Int32)) = (1 : Int32) then (if gok x5 16 = true then (if (A 9 (x5).toNatClampNeg) = x1 then (if gok x5 16 = true then (if gok x5 16 = true then (if (f_X11_in x3 (A 11 (x5).toNatClampNeg) (A 12 (x5).toNatClampNeg)) = 0 then (K25 x1 x2 x3 (0 : Int32) (x5 + (1 : Int32))) else (K25 x1 x2 x3 (1 : Int32) (x5 + (1 : Int32)))) else none) else none) else (K25 x1 x2 x3 (0 : Int32) (x5 + (1 : Int32)))) else none) else (K25 x1 x2 x3 (0 : Int32) (x5 + (1 : Int32)))) else (K25 x1 x2 x3 (1 : Int32) (x5 + (1 : Int32)))))) n
theorem f_X11_hoursOf_25_s (F : ZF) (A : ZA) (T : Int64) (K9 : Int32 → Int32 → Int32 → Option Int32) (n : Nat) (x1 x2 x3 x4 x5 : Int32) : f_X11_hoursOf_25 F A T K9 (n + 1) x1 x2 x3 x4 x5 =
  (if (A 8 ((0 : Int32)).toNatClampNeg) ≤ x5 then (if x4 = 0 then (f_X11_hoursOf_112 F A T K9 x1 x3 (0 : Int32) x2) else (f_X11_hoursOf_112 F A T K9 x1 x3 (1 : Int32) x2)) else (if x4 = 0 then (if (((A 15 ((1 : Int32)).toNatClampNeg) >>> (x5 &&& 31)) &&& (1 : Int32)) = (1 : Int32) then (if gok x5 16 = true then (if (A 9 (x5).toNatClampNeg) = x1 then (if gok x5 16 = true then (if gok x5 16 = true then (if (f_X11_in x3 (A 11 (x5).toNatClampNeg) (A 12 (x5).toNatClampNeg)) = 0 then ((f_X11_hoursOf_25 F A T K9 n) x1 x2 x3 (0 : Int32) (x5 + (1 : Int32))) else ((f_X11_hoursOf_25 F A T K9 n) x1 x2 x3 (1 : Int32) (x5 + (1 : Int32)))) else none) else none) else ((f_X11_hoursOf_25 F A T K9 n) x1 x2 x3 (0 : Int32) (x5 + (1 : Int32)))) else none) else ((f_X11_hoursOf_25 F A T K9 n) x1 x2 x3 (0 : Int32) (x5 + (1 : Int32)))) else ((f_X11_hoursOf_25 F A T K9 n) x1 x2 x3 (1 : Int32) (x5 + (1 : Int32))))) := rfl
noncomputable def f_X11_hoursOf_9 (F : ZF) (A : ZA) (T : Int64) (n : Nat) : Int32 → Int32 → Int32 → Option Int32 :=
  @Nat.rec (fun _ => Int32 → Int32 → Int32 → Option Int32) (fun _ _ _ => none) (fun _ K9 x1 x2 x3 =>
  (if (A 14 ((0 : Int32)).toNatClampNeg) < x3 then (some x2) else (f_X11_hoursOf_25 F A T K9 1000 x1 x2 x3 (0 : Int32) (0 : Int32)))) n
theorem f_X11_hoursOf_9_s (F : ZF) (A : ZA) (T : Int64) (n : Nat) (x1 x2 x3 : Int32) : f_X11_hoursOf_9 F A T (n + 1) x1 x2 x3 =
  (if (A 14 ((0 : Int32)).toNatClampNeg) < x3 then (some x2) else (f_X11_hoursOf_25 F A T (f_X11_hoursOf_9 F A T n) 1000 x1 x2 x3 (0 : Int32) (0 : Int32))) := rfl
noncomputable def f_X11_hoursOf (a0 : Int32) (F : ZF) (A : ZA) (T : Int64) : Option Int32 :=
  (f_X11_hoursOf_9 F A T 1000 a0 (0 : Int32) (A 13 ((0 : Int32)).toNatClampNeg))
noncomputable def f_X11_heldBy_76 (F : ZF) (A : ZA) (T : Int64) (x1 y0 : Int32) : Option Int32 :=
  (Option.bind (f_X11_hoursOf x1 F A T) fun q8 => (if 0 ≤ (y0 - q8) then (some (y0 - q8)) else (some (0 : Int32))))
noncomputable def f_X11_heldBy_59 (F : ZF) (A : ZA) (T : Int64) (K10 : Int32 → Int32 → Int32 → Int32 → Option Int32) (x1 x2 x4 y0 y1 : Int32) : Option Int32 :=
  (K10 x1 x2 (y1 + y0) (x4 + (1 : Int32)))
noncomputable def f_X11_heldBy_10 (F : ZF) (A : ZA) (T : Int64) (n : Nat) : Int32 → Int32 → Int32 → Int32 → Option Int32 :=
  @Nat.rec (fun _ => Int32 → Int32 → Int32 → Int32 → Option Int32) (fun _ _ _ _ => none) (fun _ K10 x1 x2 x3 x4 =>
  (if (A 4 ((0 : Int32)).toNatClampNeg) ≤ x4 then (if 0 ≤ x3 then (f_X11_heldBy_76 F A T x1 x3) else (f_X11_heldBy_76 F A T x1 (0 : Int32))) else (if ((x2 >>> (x4 &&& 31)) &&& (1 : Int32)) = (1 : Int32) then (if gok (((6 : Int32) * x4) + x1) 96 = true then (if gok x4 16 = true then (f_X11_heldBy_59 F A T K10 x1 x2 x4 (((A 7 ((((6 : Int32) * x4) + x1)).toNatClampNeg) * (A 6 (x4).toNatClampNeg)) / (10 : Int32)) x3) else none) else none) else (f_X11_heldBy_59 F A T K10 x1 x2 x4 (0 : Int32) x3)))) n
theorem f_X11_heldBy_10_s (F : ZF) (A : ZA) (T : Int64) (n : Nat) (x1 x2 x3 x4 : Int32) : f_X11_heldBy_10 F A T (n + 1) x1 x2 x3 x4 =
  (if (A 4 ((0 : Int32)).toNatClampNeg) ≤ x4 then (if 0 ≤ x3 then (f_X11_heldBy_76 F A T x1 x3) else (f_X11_heldBy_76 F A T x1 (0 : Int32))) else (if ((x2 >>> (x4 &&& 31)) &&& (1 : Int32)) = (1 : Int32) then (if gok (((6 : Int32) * x4) + x1) 96 = true then (if gok x4 16 = true then (f_X11_heldBy_59 F A T (f_X11_heldBy_10 F A T n) x1 x2 x4 (((A 7 ((((6 : Int32) * x4) + x1)).toNatClampNeg) * (A 6 (x4).toNatClampNeg)) / (10 : Int32)) x3) else none) else none) else (f_X11_heldBy_59 F A T (f_X11_heldBy_10 F A T n) x1 x2 x4 (0 : Int32) x3))) := rfl
noncomputable def f_X11_heldBy (a0 a1 : Int32) (F : ZF) (A : ZA) (T : Int64) : Option Int32 :=
  (if gok a0 12 = true then (f_X11_heldBy_10 F A T 1000 a0 a1 (A 3 (a0).toNatClampNeg) (0 : Int32)) else none)
noncomputable def f_X11_hold_7 (n : Nat) : Int32 → Int32 → ZF → ZA → Int64 → Option ZS :=
  @Nat.rec (fun _ => Int32 → Int32 → ZF → ZA → Int64 → Option ZS) (fun _ _ _ _ _ => none) (fun _ K7 x1 x2 F A T =>
  (if (A 2 ((0 : Int32)).toNatClampNeg) ≤ x2 then (some (F, A, T)) else (Option.bind (f_X11_heldBy x2 x1 F A T) fun q3 => (if gok x2 6 = true then (if gok x2 6 = true then (K7 x1 (x2 + (1 : Int32)) (upd F 9 ((F 9) + ((zst A 17 (x2).toNatClampNeg q3) 17 (x2).toNatClampNeg))) (zst A 17 (x2).toNatClampNeg q3) T) else none) else none)))) n
theorem f_X11_hold_7_s (n : Nat) (x1 x2 : Int32) (F : ZF) (A : ZA) (T : Int64) : f_X11_hold_7 (n + 1) x1 x2 F A T =
  (if (A 2 ((0 : Int32)).toNatClampNeg) ≤ x2 then (some (F, A, T)) else (Option.bind (f_X11_heldBy x2 x1 F A T) fun q3 => (if gok x2 6 = true then (if gok x2 6 = true then ((f_X11_hold_7 n) x1 (x2 + (1 : Int32)) (upd F 9 ((F 9) + ((zst A 17 (x2).toNatClampNeg q3) 17 (x2).toNatClampNeg))) (zst A 17 (x2).toNatClampNeg q3) T) else none) else none))) := rfl
noncomputable def f_X11_hold (a0 : Int32) (F : ZF) (A : ZA) (T : Int64) : Option ZS :=
  (f_X11_hold_7 1000 a0 (0 : Int32) (upd F 9 (0 : Int32)) A T)
noncomputable def f_X11_serve_117 (K82 : Int32 → Int32 → ZF → ZA → Int64 → Option ZS) (K92 : Int32 → Int32 → Int32 → Int32 → ZF → ZA → Int64 → Option ZS) (x1 x2 x3 x4 y0 : Int32) (F : ZF) (A : ZA) (T : Int64) : Option ZS :=
  (if y0 = 0 then (K92 x1 x2 x3 (x4 + (1 : Int32)) F A T) else (if x3 = (-9 : Int32) then (K92 x1 x2 x4 (x4 + (1 : Int32)) F A T) else (if gok x4 6 = true then (if (F 9) = 0 then none else (if gok x3 6 = true then (if (F 9) = 0 then none else (if (((A 15 ((2 : Int32)).toNatClampNeg) * (A 17 (x4).toNatClampNeg)) - ((A 15 ((2 : Int32)).toNatClampNeg) * (A 17 (x4).toNatClampNeg)) / (F 9) * (F 9)) ≤ (((A 15 ((2 : Int32)).toNatClampNeg) * (A 17 (x3).toNatClampNeg)) - ((A 15 ((2 : Int32)).toNatClampNeg) * (A 17 (x3).toNatClampNeg)) / (F 9) * (F 9)) then (K92 x1 x2 x3 (x4 + (1 : Int32)) F A T) else (K92 x1 x2 x4 (x4 + (1 : Int32)) F A T))) else none)) else none)))
noncomputable def f_X11_serve_92 (K82 : Int32 → Int32 → ZF → ZA → Int64 → Option ZS) (n : Nat) : Int32 → Int32 → Int32 → Int32 → ZF → ZA → Int64 → Option ZS :=
  @Nat.rec (fun _ => Int32 → Int32 → Int32 → Int32 → ZF → ZA → Int64 → Option ZS) (fun _ _ _ _ _ _ _ => none) (fun _ K92 x1 x2 x3 x4 F A T =>
  (if (A 2 ((0 : Int32)).toNatClampNeg) ≤ x4 then (if gok x3 6 = true then (if gok x3 6 = true then (K82 (x1 + (-1 : Int32)) (x2 ||| ((1 : Int32) <<< (x3 &&& 31))) F (zst A 18 (x3).toNatClampNeg ((A 18 (x3).toNatClampNeg) + (1 : Int32))) T) else none) else none) else (if ((x2 >>> (x4 &&& 31)) &&& (1 : Int32)) = 0 then (f_X11_serve_117 K82 K92 x1 x2 x3 x4 (1 : Int32) F A T) else (f_X11_serve_117 K82 K92 x1 x2 x3 x4 (0 : Int32) F A T)))) n
theorem f_X11_serve_92_s (K82 : Int32 → Int32 → ZF → ZA → Int64 → Option ZS) (n : Nat) (x1 x2 x3 x4 : Int32) (F : ZF) (A : ZA) (T : Int64) : f_X11_serve_92 K82 (n + 1) x1 x2 x3 x4 F A T =
  (if (A 2 ((0 : Int32)).toNatClampNeg) ≤ x4 then (if gok x3 6 = true then (if gok x3 6 = true then (K82 (x1 + (-1 : Int32)) (x2 ||| ((1 : Int32) <<< (x3 &&& 31))) F (zst A 18 (x3).toNatClampNeg ((A 18 (x3).toNatClampNeg) + (1 : Int32))) T) else none) else none) else (if ((x2 >>> (x4 &&& 31)) &&& (1 : Int32)) = 0 then (f_X11_serve_117 K82 (f_X11_serve_92 K82 n) x1 x2 x3 x4 (1 : Int32) F A T) else (f_X11_serve_117 K82 (f_X11_serve_92 K82 n) x1 x2 x3 x4 (0 : Int32) F A T))) := rfl
noncomputable def f_X11_serve_82 (n : Nat) : Int32 → Int32 → ZF → ZA → Int64 → Option ZS :=
  @Nat.rec (fun _ => Int32 → Int32 → ZF → ZA → Int64 → Option ZS) (fun _ _ _ _ _ => none) (fun _ K82 x1 x2 F A T =>
  (if x1 ≤ 0 then (some (F, A, T)) else (f_X11_serve_92 K82 1000 x1 x2 (-9 : Int32) (0 : Int32) F A T))) n
theorem f_X11_serve_82_s (n : Nat) (x1 x2 : Int32) (F : ZF) (A : ZA) (T : Int64) : f_X11_serve_82 (n + 1) x1 x2 F A T =
  (if x1 ≤ 0 then (some (F, A, T)) else (f_X11_serve_92 (f_X11_serve_82 n) 1000 x1 x2 (-9 : Int32) (0 : Int32) F A T)) := rfl
noncomputable def f_X11_serve_64 (K20 : Int32 → Int32 → ZF → ZA → Int64 → Option ZS) (x1 x2 y0 y1 : Int32) (F : ZF) (A : ZA) (T : Int64) : Option ZS :=
  (if gok y1 6 = true then (if gok x2 6 = true then (K20 (x1 - ((zst A 18 (y1).toNatClampNeg y0) 18 (x2).toNatClampNeg)) (x2 + (1 : Int32)) F (zst A 18 (y1).toNatClampNeg y0) T) else none) else none)
noncomputable def f_X11_serve_20 (n : Nat) : Int32 → Int32 → ZF → ZA → Int64 → Option ZS :=
  @Nat.rec (fun _ => Int32 → Int32 → ZF → ZA → Int64 → Option ZS) (fun _ _ _ _ _ => none) (fun _ K20 x1 x2 F A T =>
  (if (A 2 ((0 : Int32)).toNatClampNeg) ≤ x2 then (f_X11_serve_82 1000 x1 (0 : Int32) F A T) else (if (F 9) = 0 then (f_X11_serve_64 K20 x1 x2 (0 : Int32) x2 F A T) else (if gok x2 6 = true then (if (F 9) = 0 then none else (f_X11_serve_64 K20 x1 x2 (((A 15 ((2 : Int32)).toNatClampNeg) * (A 17 (x2).toNatClampNeg)) / (F 9)) x2 F A T)) else none)))) n
theorem f_X11_serve_20_s (n : Nat) (x1 x2 : Int32) (F : ZF) (A : ZA) (T : Int64) : f_X11_serve_20 (n + 1) x1 x2 F A T =
  (if (A 2 ((0 : Int32)).toNatClampNeg) ≤ x2 then (f_X11_serve_82 1000 x1 (0 : Int32) F A T) else (if (F 9) = 0 then (f_X11_serve_64 (f_X11_serve_20 n) x1 x2 (0 : Int32) x2 F A T) else (if gok x2 6 = true then (if (F 9) = 0 then none else (f_X11_serve_64 (f_X11_serve_20 n) x1 x2 (((A 15 ((2 : Int32)).toNatClampNeg) * (A 17 (x2).toNatClampNeg)) / (F 9)) x2 F A T)) else none))) := rfl
noncomputable def f_X11_serve (F : ZF) (A : ZA) (T : Int64) : Option ZS :=
  (if (F 9) = 0 then (f_X11_serve_20 1000 (0 : Int32) (0 : Int32) F A T) else (f_X11_serve_20 1000 (A 15 ((2 : Int32)).toNatClampNeg) (0 : Int32) F A T))
noncomputable def f_X11_asNow (F : ZF) (A : ZA) (T : Int64) : Option ZS :=
  (Option.bind (f_X11_hold (A 15 ((0 : Int32)).toNatClampNeg) F A T) fun q1 => (Option.bind (f_X11_serve q1.1 q1.2.1 q1.2.2) fun q3 => (some (q3.1, q3.2.1, q3.2.2))))
noncomputable def f_X11_suspect (a0 a1 : Int32) (F : ZF) (A : ZA) (T : Int64) : Option (Int32 × ZS) :=
  (if (f_X11_isSuspect a0 F A T) = 0 then (some ((-1 : Int32), F, A, T)) else (Option.bind (f_X11_asNow F A T) fun q3 => (if a1 = (0 : Int32) then (if gok a0 12 = true then (some ((q3.2.1 3 (a0).toNatClampNeg), q3.1, q3.2.1, q3.2.2)) else none) else (if a1 = (1 : Int32) then (if gok a0 6 = true then (some ((q3.2.1 17 (a0).toNatClampNeg), q3.1, q3.2.1, q3.2.2)) else none) else (if a1 = (2 : Int32) then (if gok a0 6 = true then (some ((q3.2.1 18 (a0).toNatClampNeg), q3.1, q3.2.1, q3.2.2)) else none) else (if a1 = (3 : Int32) then (Option.bind (f_X11_hoursOf a0 q3.1 q3.2.1 q3.2.2) fun q13 => (some (q13, q3.1, q3.2.1, q3.2.2))) else (some ((-1 : Int32), q3.1, q3.2.1, q3.2.2))))))))
noncomputable def f_X10_clear (F : ZF) (A : ZA) (T : Int64) : Option (Int32 × ZS) :=
  (some ((F 1), (upd F 1 (0 : Int32)), A, T))
noncomputable def f_X10_within (a0 a1 a2 : Int32) : Int32 :=
  (if a0 < a1 then ((0 : Int32)) else (if a2 < a0 then ((0 : Int32)) else ((1 : Int32))))
noncomputable def f_X10_isFact (a0 : Int32) (F : ZF) (A : ZA) (T : Int64) : Int32 :=
  ((f_X10_within a0 (0 : Int32) ((F 23) - (1 : Int32))))
noncomputable def f_X10_bit (a0 a1 : Int32) : Int32 :=
  (((a0 >>> (a1 &&& 31)) &&& (1 : Int32)))
noncomputable def f_X10_fact (a0 a1 : Int32) (F : ZF) (A : ZA) (T : Int64) : Option Int32 :=
  (if (f_X10_isFact a0 F A T) = 0 then (some (-1 : Int32)) else (if (f_X10_within a1 (0 : Int32) (2 : Int32)) = 0 then (some (-1 : Int32)) else (if a1 = (0 : Int32) then (if gok a0 8 = true then (some (A 30 (a0).toNatClampNeg)) else none) else (if a1 = (1 : Int32) then (if gok a0 8 = true then (some (A 31 (a0).toNatClampNeg)) else none) else (some (f_X10_bit (F 10) a0))))))
noncomputable def f_X10_isAlibi (a0 : Int32) (F : ZF) (A : ZA) (T : Int64) : Int32 :=
  ((f_X10_within a0 (0 : Int32) ((F 24) - (1 : Int32))))
noncomputable def f_X10_alibi (a0 a1 : Int32) (F : ZF) (A : ZA) (T : Int64) : Option Int32 :=
  (if (f_X10_isAlibi a0 F A T) = 0 then (some (-1 : Int32)) else (if (f_X10_within a1 (0 : Int32) (4 : Int32)) = 0 then (some (-1 : Int32)) else (if a1 = (0 : Int32) then (if gok a0 8 = true then (some (A 34 (a0).toNatClampNeg)) else none) else (if a1 = (1 : Int32) then (if gok a0 8 = true then (some (A 35 (a0).toNatClampNeg)) else none) else (if a1 = (2 : Int32) then (if gok a0 8 = true then (some (A 36 (a0).toNatClampNeg)) else none) else (if a1 = (3 : Int32) then (if gok a0 8 = true then (some (A 37 (a0).toNatClampNeg)) else none) else (some (f_X10_bit (F 11) a0))))))))
noncomputable def f_X6_stepBack (F : ZF) (A : ZA) (T : Int64) : Option ZS :=
  (if gok ((upd F 13 ((F 13) - (1 : Int32))) 13) 10 = true then (if gok ((upd (upd F 13 ((F 13) - (1 : Int32))) 10 ((A 18 (((upd F 13 ((F 13) - (1 : Int32))) 13)).toNatClampNeg) &&& (255 : Int32))) 13) 10 = true then (if gok ((upd (upd (upd F 13 ((F 13) - (1 : Int32))) 10 ((A 18 (((upd F 13 ((F 13) - (1 : Int32))) 13)).toNatClampNeg) &&& (255 : Int32))) 11 (((A 18 (((upd (upd F 13 ((F 13) - (1 : Int32))) 10 ((A 18 (((upd F 13 ((F 13) - (1 : Int32))) 13)).toNatClampNeg) &&& (255 : Int32))) 13)).toNatClampNeg) >>> ((8 : Int32) &&& 31)) &&& (255 : Int32))) 13) 10 = true then (some ((upd (upd (upd (upd F 13 ((F 13) - (1 : Int32))) 10 ((A 18 (((upd F 13 ((F 13) - (1 : Int32))) 13)).toNatClampNeg) &&& (255 : Int32))) 11 (((A 18 (((upd (upd F 13 ((F 13) - (1 : Int32))) 10 ((A 18 (((upd F 13 ((F 13) - (1 : Int32))) 13)).toNatClampNeg) &&& (255 : Int32))) 13)).toNatClampNeg) >>> ((8 : Int32) &&& 31)) &&& (255 : Int32))) 12 ((A 18 (((upd (upd (upd F 13 ((F 13) - (1 : Int32))) 10 ((A 18 (((upd F 13 ((F 13) - (1 : Int32))) 13)).toNatClampNeg) &&& (255 : Int32))) 11 (((A 18 (((upd (upd F 13 ((F 13) - (1 : Int32))) 10 ((A 18 (((upd F 13 ((F 13) - (1 : Int32))) 13)).toNatClampNeg) &&& (255 : Int32))) 13)).toNatClampNeg) >>> ((8 : Int32) &&& 31)) &&& (255 : Int32))) 13)).toNatClampNeg) >>> ((16 : Int32) &&& 31))), A, T)) else none) else none) else none)
noncomputable def f_X10_undo (F : ZF) (A : ZA) (T : Int64) : Option (Int32 × ZS) :=
  (if (F 13) = 0 then (some ((-2 : Int32), F, A, T)) else (Option.bind (f_X6_stepBack F A T) fun q2 => (some ((q2.1 13), q2.1, q2.2.1, q2.2.2))))
