set_option maxHeartbeats 4000000 in
set_option maxRecDepth 100000 in
theorem c_X0_markOf_23_0 (l : Launch) (D : va_G) (cs : Nat → ClassId) (ad : Nat → Nat) (F : ZF) (A : ZA) (T : Int64) (a0 : Int32) (q : (Int32 × ZS)) (h : f_X0_markOf_23_0 a0 F A T = some q) : zMi l D cs (XWc cs ad 10 11) yX0_markOf cX0_markOf 3 (some .int) rm_X0_markOf ([.ref (ad 23), .ref (ad 0), .int a0] : List Value) F A T q True := by
  refine z_enteri (by decide) (Nat.le_of_ble_eq_true rfl) ?_
  intro p e s m below meth c A0 ls S K w hA hr hlk hl
  have S : CallFix p m c cX0_markOf 3 s ([.ref (ad 23), .ref (ad 0), .int a0] : List Value).toArray zWs RX0 := S
  have hl : lv_has ls 3 [(0, .ref (ad 23)), (1, .ref (ad 0)), (2, .int a0)] := hl
  unfold f_X0_markOf_23_0 at h
  refine lv_aload_n S.1 S.2.1 dX0_markOf_0 rfl (lv_at hl 1 rfl) ?_
  refine lv_dup S.1 S.2.1 dX0_markOf_1 rfl ?_
  refine nX_0_10 S K w (by decide +kernel) dX0_markOf_2 ?_
  refine lv_lconst (v := 1) S.1 S.2.1 dX0_markOf_5 (by decide) ?_
  refine lv_ladd S.1 S.2.1 dX0_markOf_6 ?_
  refine mX_0_10 S K w (by decide +kernel) dX0_markOf_7 (fun H locs w => ?_)
  refine lv_aload_n S.1 S.2.1 dX0_markOf_10 rfl (lv_at hl 1 rfl) ?_
  refine nX_0_1 S K w (by decide +kernel) dX0_markOf_11 ?_
  refine gX_2_0 S K w w123 dX0_markOf_14 ?_
  refine lv_iload_n S.1 S.2.1 dX0_markOf_17 rfl (lv_at hl 2 rfl) ?_
  obtain ⟨g1, h⟩ := og_g h
  refine aX_14 S K w g1 dX0_markOf_18 ?_
  exact z_reti S w hr hlk dX0_markOf_19 trivial (Option.some.inj h).symm
set_option maxHeartbeats 4000000 in
set_option maxRecDepth 100000 in
theorem c_X0_markOf_24_0 (l : Launch) (D : va_G) (cs : Nat → ClassId) (ad : Nat → Nat) (F : ZF) (A : ZA) (T : Int64) (a0 : Int32) (q : (Int32 × ZS)) (h : f_X0_markOf_24_0 a0 F A T = some q) : zMi l D cs (XWc cs ad 10 11) yX0_markOf cX0_markOf 3 (some .int) rm_X0_markOf ([.ref (ad 24), .ref (ad 0), .int a0] : List Value) F A T q True := by
  refine z_enteri (by decide) (Nat.le_of_ble_eq_true rfl) ?_
  intro p e s m below meth c A0 ls S K w hA hr hlk hl
  have S : CallFix p m c cX0_markOf 3 s ([.ref (ad 24), .ref (ad 0), .int a0] : List Value).toArray zWs RX0 := S
  have hl : lv_has ls 3 [(0, .ref (ad 24)), (1, .ref (ad 0)), (2, .int a0)] := hl
  unfold f_X0_markOf_24_0 at h
  refine lv_aload_n S.1 S.2.1 dX0_markOf_0 rfl (lv_at hl 1 rfl) ?_
  refine lv_dup S.1 S.2.1 dX0_markOf_1 rfl ?_
  refine nX_0_10 S K w (by decide +kernel) dX0_markOf_2 ?_
  refine lv_lconst (v := 1) S.1 S.2.1 dX0_markOf_5 (by decide) ?_
  refine lv_ladd S.1 S.2.1 dX0_markOf_6 ?_
  refine mX_0_10 S K w (by decide +kernel) dX0_markOf_7 (fun H locs w => ?_)
  refine lv_aload_n S.1 S.2.1 dX0_markOf_10 rfl (lv_at hl 1 rfl) ?_
  refine nX_0_1 S K w (by decide +kernel) dX0_markOf_11 ?_
  refine gX_2_0 S K w w123 dX0_markOf_14 ?_
  refine lv_iload_n S.1 S.2.1 dX0_markOf_17 rfl (lv_at hl 2 rfl) ?_
  obtain ⟨g1, h⟩ := og_g h
  refine aX_14 S K w g1 dX0_markOf_18 ?_
  exact z_reti S w hr hlk dX0_markOf_19 trivial (Option.some.inj h).symm
set_option maxHeartbeats 4000000 in
set_option maxRecDepth 100000 in
theorem c_X8_markOf_24_0 (l : Launch) (D : va_G) (cs : Nat → ClassId) (ad : Nat → Nat) (F : ZF) (A : ZA) (T : Int64) (a0 : Int32) (q : (Int32 × ZS)) (h : f_X8_markOf_24_0 a0 F A T = some q) : zMi l D cs (XWc cs ad 10 11) yX8_markOf cX8_markOf 3 (some .int) rm_X8_markOf ([.ref (ad 24), .ref (ad 0), .int a0] : List Value) F A T q True := by
  refine z_enteri (by decide) (Nat.le_of_ble_eq_true rfl) ?_
  intro p e s m below meth c A0 ls S K w hA hr hlk hl
  have S : CallFix p m c cX8_markOf 3 s ([.ref (ad 24), .ref (ad 0), .int a0] : List Value).toArray zWs RX8 := S
  have hl : lv_has ls 3 [(0, .ref (ad 24)), (1, .ref (ad 0)), (2, .int a0)] := hl
  unfold f_X8_markOf_24_0 at h
  refine lv_aload_n S.1 S.2.1 dX8_markOf_0 rfl (lv_at hl 1 rfl) ?_
  refine lv_dup S.1 S.2.1 dX8_markOf_1 rfl ?_
  refine nX_0_10 S K w (by decide +kernel) dX8_markOf_2 ?_
  refine lv_ldc2 (v := 10) S.1 S.2.1 S.2.2.2.1 (S.2.2.2.2 _ w682) dX8_markOf_5 ?_
  refine lv_ladd S.1 S.2.1 dX8_markOf_8 ?_
  refine mX_0_10 S K w (by decide +kernel) dX8_markOf_9 (fun H locs w => ?_)
  refine lv_aload_n S.1 S.2.1 dX8_markOf_12 rfl (lv_at hl 0 rfl) ?_
  refine lv_aload_n S.1 S.2.1 dX8_markOf_13 rfl (lv_at hl 1 rfl) ?_
  refine lv_iload_n S.1 S.2.1 dX8_markOf_14 rfl (lv_at hl 2 rfl) ?_
  obtain ⟨q2, e3, h⟩ := og_b h
  refine z_callUi S K w hA (c_X0_markOf_24_0 l D cs ad F A (T + (10 : Int64)) a0 q2 e3) (cw_X8_15 S.2.2.2.2 ⟨Nat.le_of_ble_eq_true rfl, Nat.le_of_ble_eq_true rfl⟩) (ci := 8) (C := RX8) rfl (z_recv K w 24 8 rfl rfl) rfl hl.1 rfl (Nat.le_of_ble_eq_true rfl) ⟨Nat.zero_le _, Nat.zero_le _⟩ dX8_markOf_15 (fun b1 H locs w => ?_)
  refine lv_aload_n S.1 S.2.1 dX8_markOf_18 rfl (lv_at hl 1 rfl) ?_
  refine nX_0_11 S K w (by decide +kernel) dX8_markOf_19 ?_
  refine gX_10_6 S K w w249 dX8_markOf_22 ?_
  refine lv_iload_n S.1 S.2.1 dX8_markOf_25 rfl (lv_at hl 2 rfl) ?_
  obtain ⟨g4, h⟩ := og_g h
  refine aX_29 S K w g4 dX8_markOf_26 ?_
  refine lv_iadd S.1 S.2.1 dX8_markOf_27 ?_
  exact z_reti S w hr hlk dX8_markOf_28 trivial (Option.some.inj h).symm
set_option maxHeartbeats 4000000 in
set_option maxRecDepth 100000 in
theorem c_X0_markOf_25_0 (l : Launch) (D : va_G) (cs : Nat → ClassId) (ad : Nat → Nat) (F : ZF) (A : ZA) (T : Int64) (a0 : Int32) (q : (Int32 × ZS)) (h : f_X0_markOf_25_0 a0 F A T = some q) : zMi l D cs (XWc cs ad 10 11) yX0_markOf cX0_markOf 3 (some .int) rm_X0_markOf ([.ref (ad 25), .ref (ad 0), .int a0] : List Value) F A T q True := by
  refine z_enteri (by decide) (Nat.le_of_ble_eq_true rfl) ?_
  intro p e s m below meth c A0 ls S K w hA hr hlk hl
  have S : CallFix p m c cX0_markOf 3 s ([.ref (ad 25), .ref (ad 0), .int a0] : List Value).toArray zWs RX0 := S
  have hl : lv_has ls 3 [(0, .ref (ad 25)), (1, .ref (ad 0)), (2, .int a0)] := hl
  unfold f_X0_markOf_25_0 at h
  refine lv_aload_n S.1 S.2.1 dX0_markOf_0 rfl (lv_at hl 1 rfl) ?_
  refine lv_dup S.1 S.2.1 dX0_markOf_1 rfl ?_
  refine nX_0_10 S K w (by decide +kernel) dX0_markOf_2 ?_
  refine lv_lconst (v := 1) S.1 S.2.1 dX0_markOf_5 (by decide) ?_
  refine lv_ladd S.1 S.2.1 dX0_markOf_6 ?_
  refine mX_0_10 S K w (by decide +kernel) dX0_markOf_7 (fun H locs w => ?_)
  refine lv_aload_n S.1 S.2.1 dX0_markOf_10 rfl (lv_at hl 1 rfl) ?_
  refine nX_0_1 S K w (by decide +kernel) dX0_markOf_11 ?_
  refine gX_2_0 S K w w123 dX0_markOf_14 ?_
  refine lv_iload_n S.1 S.2.1 dX0_markOf_17 rfl (lv_at hl 2 rfl) ?_
  obtain ⟨g1, h⟩ := og_g h
  refine aX_14 S K w g1 dX0_markOf_18 ?_
  exact z_reti S w hr hlk dX0_markOf_19 trivial (Option.some.inj h).symm
set_option maxHeartbeats 4000000 in
set_option maxRecDepth 100000 in
theorem c_X9_markOf_25_0 (l : Launch) (D : va_G) (cs : Nat → ClassId) (ad : Nat → Nat) (F : ZF) (A : ZA) (T : Int64) (a0 : Int32) (q : (Int32 × ZS)) (h : f_X9_markOf_25_0 a0 F A T = some q) : zMi l D cs (XWc cs ad 10 11) yX9_markOf cX9_markOf 5 (some .int) rm_X9_markOf ([.ref (ad 25), .ref (ad 0), .int a0] : List Value) F A T q True := by
  refine z_enteri (by decide) (Nat.le_of_ble_eq_true rfl) ?_
  intro p e s m below meth c A0 ls S K w hA hr hlk hl
  have S : CallFix p m c cX9_markOf 5 s ([.ref (ad 25), .ref (ad 0), .int a0] : List Value).toArray zWs RX9 := S
  have hl : lv_has ls 5 [(0, .ref (ad 25)), (1, .ref (ad 0)), (2, .int a0)] := hl
  unfold f_X9_markOf_25_0 at h
  have j17 : ∀ (n17 : Nat) (x2 x3 x4 : Int32) (F : ZF) (A : ZA) (T : Int64), f_X9_markOf_25_0_17 n17 x2 x3 x4 F A T = some q → ∀ (H : Heap) (locs : List Loc) (ls : Array Slot), lv_has ls 5 [(0, .ref (ad 25)), (1, .ref (ad 0)), (2, .int x2), (3, .int x3), (4, .int x4)] → ZW D A0 s.heap (XWc cs ad 10 11 F A T) H locs → W p l e rm_X9_markOf s m ([.ref (ad 25), .ref (ad 0), .int a0] : List Value).toArray below meth c H locs 0 0 (zQi (XWc cs ad 10 11) D A0 below ([.ref (ad 25), .ref (ad 0), .int a0] : List Value) s q True) (F0 m 17 ls []) := by
    intro n17
    induction n17 with
    | zero =>
      intro x2 x3 x4 F A T h H locs ls hl w
      have h : (none : Option (Int32 × ZS)) = some q := h
      cases h
    | succ n17 ih17 =>
      intro x2 x3 x4 F A T h H locs ls hl w
      rw [f_X9_markOf_25_0_17_s] at h
      refine lv_iload S.1 S.2.1 dX9_markOf_17 (lv_at hl 4 rfl) ?_
      refine lv_aload_n S.1 S.2.1 dX9_markOf_19 rfl (lv_at hl 1 rfl) ?_
      refine nX_0_11 S K w (by decide +kernel) dX9_markOf_20 ?_
      refine gX_10_2 S K w w233 dX9_markOf_23 ?_
      refine lv_icmp_ge (tgt := 52) S.1 S.2.1 dX9_markOf_26 (by decide) (fun c1 => ?_) (fun c1 => ?_)
      · have h := og_t c1 h
        refine lv_aload_n S.1 S.2.1 dX9_markOf_52 rfl (lv_at hl 0 rfl) ?_
        refine lv_aload_n S.1 S.2.1 dX9_markOf_53 rfl (lv_at hl 1 rfl) ?_
        refine lv_iload_n S.1 S.2.1 dX9_markOf_54 rfl (lv_at hl 2 rfl) ?_
        obtain ⟨q3, e4, h⟩ := og_b h
        refine z_callUi S K w hA (c_X0_markOf_25_0 l D cs ad F A T x2 q3 e4) (cw_X9_29 S.2.2.2.2 ⟨Nat.le_of_ble_eq_true rfl, Nat.le_of_ble_eq_true rfl⟩) (ci := 9) (C := RX9) rfl (z_recv K w 25 9 rfl rfl) rfl hl.1 rfl (Nat.le_of_ble_eq_true rfl) ⟨Nat.zero_le _, Nat.zero_le _⟩ dX9_markOf_55 (fun b2 H locs w => ?_)
        refine lv_iload_n S.1 S.2.1 dX9_markOf_58 rfl (lv_at hl 3 rfl) ?_
        refine lv_isub S.1 S.2.1 dX9_markOf_59 ?_
        exact z_reti S w hr hlk dX9_markOf_60 trivial (Option.some.inj h).symm
      · have h := og_f c1 h
        refine lv_aload_n S.1 S.2.1 dX9_markOf_29 rfl (lv_at hl 1 rfl) ?_
        refine nX_0_11 S K w (by decide +kernel) dX9_markOf_30 ?_
        refine gX_10_11 S K w w261 dX9_markOf_33 ?_
        refine lv_iload S.1 S.2.1 dX9_markOf_36 (lv_at hl 4 rfl) ?_
        obtain ⟨g5, h⟩ := og_g h
        refine aX_34 S K w g5 dX9_markOf_38 ?_
        refine lv_iload_n S.1 S.2.1 dX9_markOf_39 rfl (lv_at hl 2 rfl) ?_
        refine lv_icmp_ne (tgt := 46) S.1 S.2.1 dX9_markOf_40 (by decide) (fun c6 => ?_) (fun c6 => ?_)
        · have h := og_f c6 h
          refine lv_iinc (v := (x4 + (1 : Int32))) (lv' := [(4, .int (x4 + (1 : Int32))), (0, .ref (ad 25)), (1, .ref (ad 0)), (2, .int x2), (3, .int x3)]) S.1 S.2.1 dX9_markOf_46 hl (k := 4) rfl rfl (by decide) rfl (fun ls hl => ?_)
          refine lv_goto (tgt := 17) S.1 S.2.1 dX9_markOf_49 (by decide) ?_
          exact ih17 _ _ _ _ _ _ h _ _ _ (lv_sub hl [1, 2, 3, 4, 0] rfl) w
        · have h := og_t c6 h
          refine lv_iinc (v := (x3 + (1 : Int32))) (lv' := [(3, .int (x3 + (1 : Int32))), (0, .ref (ad 25)), (1, .ref (ad 0)), (2, .int x2), (4, .int x4)]) S.1 S.2.1 dX9_markOf_43 hl (k := 3) rfl rfl (by decide) rfl (fun ls hl => ?_)
          refine lv_iinc (v := (x4 + (1 : Int32))) (lv' := [(4, .int (x4 + (1 : Int32))), (3, .int (x3 + (1 : Int32))), (0, .ref (ad 25)), (1, .ref (ad 0)), (2, .int x2)]) S.1 S.2.1 dX9_markOf_46 hl (k := 4) rfl rfl (by decide) rfl (fun ls hl => ?_)
          refine lv_goto (tgt := 17) S.1 S.2.1 dX9_markOf_49 (by decide) ?_
          exact ih17 _ _ _ _ _ _ h _ _ _ (lv_sub hl [2, 3, 4, 1, 0] rfl) w
  refine lv_aload_n S.1 S.2.1 dX9_markOf_0 rfl (lv_at hl 1 rfl) ?_
  refine lv_dup S.1 S.2.1 dX9_markOf_1 rfl ?_
  refine nX_0_10 S K w (by decide +kernel) dX9_markOf_2 ?_
  refine lv_ldc2 (v := 100) S.1 S.2.1 S.2.2.2.1 (S.2.2.2.2 _ w691) dX9_markOf_5 ?_
  refine lv_ladd S.1 S.2.1 dX9_markOf_8 ?_
  refine mX_0_10 S K w (by decide +kernel) dX9_markOf_9 (fun H locs w => ?_)
  refine lv_iconst (v := 0) S.1 S.2.1 dX9_markOf_12 (by decide) ?_
  refine lv_istore_n (lv' := [(3, .int (0 : Int32)), (0, .ref (ad 25)), (1, .ref (ad 0)), (2, .int a0)]) S.1 S.2.1 dX9_markOf_13 rfl hl (by decide) rfl (fun ls hl => ?_)
  refine lv_iconst (v := 0) S.1 S.2.1 dX9_markOf_14 (by decide) ?_
  refine lv_istore (lv' := [(4, .int (0 : Int32)), (3, .int (0 : Int32)), (0, .ref (ad 25)), (1, .ref (ad 0)), (2, .int a0)]) S.1 S.2.1 dX9_markOf_15 hl (by decide) rfl (fun ls hl => ?_)
  exact j17 1000 _ _ _ _ _ _ h _ _ _ (lv_sub hl [2, 3, 4, 1, 0] rfl) w
set_option maxHeartbeats 4000000 in
set_option maxRecDepth 100000 in
theorem c_X0_markOf_26_0 (l : Launch) (D : va_G) (cs : Nat → ClassId) (ad : Nat → Nat) (F : ZF) (A : ZA) (T : Int64) (a0 : Int32) (q : (Int32 × ZS)) (h : f_X0_markOf_26_0 a0 F A T = some q) : zMi l D cs (XWc cs ad 10 11) yX0_markOf cX0_markOf 3 (some .int) rm_X0_markOf ([.ref (ad 26), .ref (ad 0), .int a0] : List Value) F A T q True := by
  refine z_enteri (by decide) (Nat.le_of_ble_eq_true rfl) ?_
  intro p e s m below meth c A0 ls S K w hA hr hlk hl
  have S : CallFix p m c cX0_markOf 3 s ([.ref (ad 26), .ref (ad 0), .int a0] : List Value).toArray zWs RX0 := S
  have hl : lv_has ls 3 [(0, .ref (ad 26)), (1, .ref (ad 0)), (2, .int a0)] := hl
  unfold f_X0_markOf_26_0 at h
  refine lv_aload_n S.1 S.2.1 dX0_markOf_0 rfl (lv_at hl 1 rfl) ?_
  refine lv_dup S.1 S.2.1 dX0_markOf_1 rfl ?_
  refine nX_0_10 S K w (by decide +kernel) dX0_markOf_2 ?_
  refine lv_lconst (v := 1) S.1 S.2.1 dX0_markOf_5 (by decide) ?_
  refine lv_ladd S.1 S.2.1 dX0_markOf_6 ?_
  refine mX_0_10 S K w (by decide +kernel) dX0_markOf_7 (fun H locs w => ?_)
  refine lv_aload_n S.1 S.2.1 dX0_markOf_10 rfl (lv_at hl 1 rfl) ?_
  refine nX_0_1 S K w (by decide +kernel) dX0_markOf_11 ?_
  refine gX_2_0 S K w w123 dX0_markOf_14 ?_
  refine lv_iload_n S.1 S.2.1 dX0_markOf_17 rfl (lv_at hl 2 rfl) ?_
  obtain ⟨g1, h⟩ := og_g h
  refine aX_14 S K w g1 dX0_markOf_18 ?_
  exact z_reti S w hr hlk dX0_markOf_19 trivial (Option.some.inj h).symm
set_option maxHeartbeats 4000000 in
set_option maxRecDepth 100000 in
theorem c_X8_markOf_26_0 (l : Launch) (D : va_G) (cs : Nat → ClassId) (ad : Nat → Nat) (F : ZF) (A : ZA) (T : Int64) (a0 : Int32) (q : (Int32 × ZS)) (h : f_X8_markOf_26_0 a0 F A T = some q) : zMi l D cs (XWc cs ad 10 11) yX8_markOf cX8_markOf 3 (some .int) rm_X8_markOf ([.ref (ad 26), .ref (ad 0), .int a0] : List Value) F A T q True := by
  refine z_enteri (by decide) (Nat.le_of_ble_eq_true rfl) ?_
  intro p e s m below meth c A0 ls S K w hA hr hlk hl
  have S : CallFix p m c cX8_markOf 3 s ([.ref (ad 26), .ref (ad 0), .int a0] : List Value).toArray zWs RX8 := S
  have hl : lv_has ls 3 [(0, .ref (ad 26)), (1, .ref (ad 0)), (2, .int a0)] := hl
  unfold f_X8_markOf_26_0 at h
  refine lv_aload_n S.1 S.2.1 dX8_markOf_0 rfl (lv_at hl 1 rfl) ?_
  refine lv_dup S.1 S.2.1 dX8_markOf_1 rfl ?_
  refine nX_0_10 S K w (by decide +kernel) dX8_markOf_2 ?_
  refine lv_ldc2 (v := 10) S.1 S.2.1 S.2.2.2.1 (S.2.2.2.2 _ w682) dX8_markOf_5 ?_
  refine lv_ladd S.1 S.2.1 dX8_markOf_8 ?_
  refine mX_0_10 S K w (by decide +kernel) dX8_markOf_9 (fun H locs w => ?_)
  refine lv_aload_n S.1 S.2.1 dX8_markOf_12 rfl (lv_at hl 0 rfl) ?_
  refine lv_aload_n S.1 S.2.1 dX8_markOf_13 rfl (lv_at hl 1 rfl) ?_
  refine lv_iload_n S.1 S.2.1 dX8_markOf_14 rfl (lv_at hl 2 rfl) ?_
  obtain ⟨q2, e3, h⟩ := og_b h
  refine z_callUi S K w hA (c_X0_markOf_26_0 l D cs ad F A (T + (10 : Int64)) a0 q2 e3) (cw_X8_15 S.2.2.2.2 ⟨Nat.le_of_ble_eq_true rfl, Nat.le_of_ble_eq_true rfl⟩) (ci := 2) (C := RX2) rfl (z_recv K w 26 2 rfl rfl) rfl hl.1 rfl (Nat.le_of_ble_eq_true rfl) ⟨Nat.zero_le _, Nat.zero_le _⟩ dX8_markOf_15 (fun b1 H locs w => ?_)
  refine lv_aload_n S.1 S.2.1 dX8_markOf_18 rfl (lv_at hl 1 rfl) ?_
  refine nX_0_11 S K w (by decide +kernel) dX8_markOf_19 ?_
  refine gX_10_6 S K w w249 dX8_markOf_22 ?_
  refine lv_iload_n S.1 S.2.1 dX8_markOf_25 rfl (lv_at hl 2 rfl) ?_
  obtain ⟨g4, h⟩ := og_g h
  refine aX_29 S K w g4 dX8_markOf_26 ?_
  refine lv_iadd S.1 S.2.1 dX8_markOf_27 ?_
  exact z_reti S w hr hlk dX8_markOf_28 trivial (Option.some.inj h).symm
set_option maxHeartbeats 4000000 in
set_option maxRecDepth 100000 in
theorem c_X2_markOf_26_0 (l : Launch) (D : va_G) (cs : Nat → ClassId) (ad : Nat → Nat) (F : ZF) (A : ZA) (T : Int64) (a0 : Int32) (q : (Int32 × ZS)) (h : f_X2_markOf_26_0 a0 F A T = some q) : zMi l D cs (XWc cs ad 10 11) yX2_markOf cX2_markOf 3 (some .int) rm_X2_markOf ([.ref (ad 26), .ref (ad 0), .int a0] : List Value) F A T q True := by
  refine z_enteri (by decide) (Nat.le_of_ble_eq_true rfl) ?_
  intro p e s m below meth c A0 ls S K w hA hr hlk hl
  have S : CallFix p m c cX2_markOf 3 s ([.ref (ad 26), .ref (ad 0), .int a0] : List Value).toArray zWs RX2 := S
  have hl : lv_has ls 3 [(0, .ref (ad 26)), (1, .ref (ad 0)), (2, .int a0)] := hl
  unfold f_X2_markOf_26_0 at h
  refine lv_aload_n S.1 S.2.1 dX2_markOf_0 rfl (lv_at hl 1 rfl) ?_
  refine lv_dup S.1 S.2.1 dX2_markOf_1 rfl ?_
  refine nX_0_10 S K w (by decide +kernel) dX2_markOf_2 ?_
  refine lv_ldc2 (v := 1000) S.1 S.2.1 S.2.2.2.1 (S.2.2.2.2 _ w678) dX2_markOf_5 ?_
  refine lv_ladd S.1 S.2.1 dX2_markOf_8 ?_
  refine mX_0_10 S K w (by decide +kernel) dX2_markOf_9 (fun H locs w => ?_)
  refine lv_aload_n S.1 S.2.1 dX2_markOf_12 rfl (lv_at hl 0 rfl) ?_
  refine lv_aload_n S.1 S.2.1 dX2_markOf_13 rfl (lv_at hl 1 rfl) ?_
  refine lv_iload_n S.1 S.2.1 dX2_markOf_14 rfl (lv_at hl 2 rfl) ?_
  obtain ⟨q2, e3, h⟩ := og_b h
  refine z_callUi S K w hA (c_X8_markOf_26_0 l D cs ad F A (T + (1000 : Int64)) a0 q2 e3) (cw_X2_15 S.2.2.2.2 ⟨Nat.le_of_ble_eq_true rfl, Nat.le_of_ble_eq_true rfl⟩) (ci := 2) (C := RX2) rfl (z_recv K w 26 2 rfl rfl) rfl hl.1 rfl (Nat.le_of_ble_eq_true rfl) ⟨Nat.zero_le _, Nat.zero_le _⟩ dX2_markOf_15 (fun b1 H locs w => ?_)
  refine lv_iconst (v := 2) S.1 S.2.1 dX2_markOf_18 (by decide) ?_
  refine lv_imul S.1 S.2.1 dX2_markOf_19 ?_
  exact z_reti S w hr hlk dX2_markOf_20 trivial (Option.some.inj h).symm
set_option maxHeartbeats 4000000 in
set_option maxRecDepth 100000 in
theorem c_X0_markOf_27_0 (l : Launch) (D : va_G) (cs : Nat → ClassId) (ad : Nat → Nat) (F : ZF) (A : ZA) (T : Int64) (a0 : Int32) (q : (Int32 × ZS)) (h : f_X0_markOf_27_0 a0 F A T = some q) : zMi l D cs (XWc cs ad 10 11) yX0_markOf cX0_markOf 3 (some .int) rm_X0_markOf ([.ref (ad 27), .ref (ad 0), .int a0] : List Value) F A T q True := by
  refine z_enteri (by decide) (Nat.le_of_ble_eq_true rfl) ?_
  intro p e s m below meth c A0 ls S K w hA hr hlk hl
  have S : CallFix p m c cX0_markOf 3 s ([.ref (ad 27), .ref (ad 0), .int a0] : List Value).toArray zWs RX0 := S
  have hl : lv_has ls 3 [(0, .ref (ad 27)), (1, .ref (ad 0)), (2, .int a0)] := hl
  unfold f_X0_markOf_27_0 at h
  refine lv_aload_n S.1 S.2.1 dX0_markOf_0 rfl (lv_at hl 1 rfl) ?_
  refine lv_dup S.1 S.2.1 dX0_markOf_1 rfl ?_
  refine nX_0_10 S K w (by decide +kernel) dX0_markOf_2 ?_
  refine lv_lconst (v := 1) S.1 S.2.1 dX0_markOf_5 (by decide) ?_
  refine lv_ladd S.1 S.2.1 dX0_markOf_6 ?_
  refine mX_0_10 S K w (by decide +kernel) dX0_markOf_7 (fun H locs w => ?_)
  refine lv_aload_n S.1 S.2.1 dX0_markOf_10 rfl (lv_at hl 1 rfl) ?_
  refine nX_0_1 S K w (by decide +kernel) dX0_markOf_11 ?_
  refine gX_2_0 S K w w123 dX0_markOf_14 ?_
  refine lv_iload_n S.1 S.2.1 dX0_markOf_17 rfl (lv_at hl 2 rfl) ?_
  obtain ⟨g1, h⟩ := og_g h
  refine aX_14 S K w g1 dX0_markOf_18 ?_
  exact z_reti S w hr hlk dX0_markOf_19 trivial (Option.some.inj h).symm
set_option maxHeartbeats 4000000 in
set_option maxRecDepth 100000 in
theorem c_X9_markOf_27_0 (l : Launch) (D : va_G) (cs : Nat → ClassId) (ad : Nat → Nat) (F : ZF) (A : ZA) (T : Int64) (a0 : Int32) (q : (Int32 × ZS)) (h : f_X9_markOf_27_0 a0 F A T = some q) : zMi l D cs (XWc cs ad 10 11) yX9_markOf cX9_markOf 5 (some .int) rm_X9_markOf ([.ref (ad 27), .ref (ad 0), .int a0] : List Value) F A T q True := by
  refine z_enteri (by decide) (Nat.le_of_ble_eq_true rfl) ?_
  intro p e s m below meth c A0 ls S K w hA hr hlk hl
  have S : CallFix p m c cX9_markOf 5 s ([.ref (ad 27), .ref (ad 0), .int a0] : List Value).toArray zWs RX9 := S
  have hl : lv_has ls 5 [(0, .ref (ad 27)), (1, .ref (ad 0)), (2, .int a0)] := hl
  unfold f_X9_markOf_27_0 at h
  have j17 : ∀ (n17 : Nat) (x2 x3 x4 : Int32) (F : ZF) (A : ZA) (T : Int64), f_X9_markOf_27_0_17 n17 x2 x3 x4 F A T = some q → ∀ (H : Heap) (locs : List Loc) (ls : Array Slot), lv_has ls 5 [(0, .ref (ad 27)), (1, .ref (ad 0)), (2, .int x2), (3, .int x3), (4, .int x4)] → ZW D A0 s.heap (XWc cs ad 10 11 F A T) H locs → W p l e rm_X9_markOf s m ([.ref (ad 27), .ref (ad 0), .int a0] : List Value).toArray below meth c H locs 0 0 (zQi (XWc cs ad 10 11) D A0 below ([.ref (ad 27), .ref (ad 0), .int a0] : List Value) s q True) (F0 m 17 ls []) := by
    intro n17
    induction n17 with
    | zero =>
      intro x2 x3 x4 F A T h H locs ls hl w
      have h : (none : Option (Int32 × ZS)) = some q := h
      cases h
    | succ n17 ih17 =>
      intro x2 x3 x4 F A T h H locs ls hl w
      rw [f_X9_markOf_27_0_17_s] at h
      refine lv_iload S.1 S.2.1 dX9_markOf_17 (lv_at hl 4 rfl) ?_
      refine lv_aload_n S.1 S.2.1 dX9_markOf_19 rfl (lv_at hl 1 rfl) ?_
      refine nX_0_11 S K w (by decide +kernel) dX9_markOf_20 ?_
      refine gX_10_2 S K w w233 dX9_markOf_23 ?_
      refine lv_icmp_ge (tgt := 52) S.1 S.2.1 dX9_markOf_26 (by decide) (fun c1 => ?_) (fun c1 => ?_)
      · have h := og_t c1 h
        refine lv_aload_n S.1 S.2.1 dX9_markOf_52 rfl (lv_at hl 0 rfl) ?_
        refine lv_aload_n S.1 S.2.1 dX9_markOf_53 rfl (lv_at hl 1 rfl) ?_
        refine lv_iload_n S.1 S.2.1 dX9_markOf_54 rfl (lv_at hl 2 rfl) ?_
        obtain ⟨q3, e4, h⟩ := og_b h
        refine z_callUi S K w hA (c_X0_markOf_27_0 l D cs ad F A T x2 q3 e4) (cw_X9_29 S.2.2.2.2 ⟨Nat.le_of_ble_eq_true rfl, Nat.le_of_ble_eq_true rfl⟩) (ci := 3) (C := RX3) rfl (z_recv K w 27 3 rfl rfl) rfl hl.1 rfl (Nat.le_of_ble_eq_true rfl) ⟨Nat.zero_le _, Nat.zero_le _⟩ dX9_markOf_55 (fun b2 H locs w => ?_)
        refine lv_iload_n S.1 S.2.1 dX9_markOf_58 rfl (lv_at hl 3 rfl) ?_
        refine lv_isub S.1 S.2.1 dX9_markOf_59 ?_
        exact z_reti S w hr hlk dX9_markOf_60 trivial (Option.some.inj h).symm
      · have h := og_f c1 h
        refine lv_aload_n S.1 S.2.1 dX9_markOf_29 rfl (lv_at hl 1 rfl) ?_
        refine nX_0_11 S K w (by decide +kernel) dX9_markOf_30 ?_
        refine gX_10_11 S K w w261 dX9_markOf_33 ?_
        refine lv_iload S.1 S.2.1 dX9_markOf_36 (lv_at hl 4 rfl) ?_
        obtain ⟨g5, h⟩ := og_g h
        refine aX_34 S K w g5 dX9_markOf_38 ?_
        refine lv_iload_n S.1 S.2.1 dX9_markOf_39 rfl (lv_at hl 2 rfl) ?_
        refine lv_icmp_ne (tgt := 46) S.1 S.2.1 dX9_markOf_40 (by decide) (fun c6 => ?_) (fun c6 => ?_)
        · have h := og_f c6 h
          refine lv_iinc (v := (x4 + (1 : Int32))) (lv' := [(4, .int (x4 + (1 : Int32))), (0, .ref (ad 27)), (1, .ref (ad 0)), (2, .int x2), (3, .int x3)]) S.1 S.2.1 dX9_markOf_46 hl (k := 4) rfl rfl (by decide) rfl (fun ls hl => ?_)
          refine lv_goto (tgt := 17) S.1 S.2.1 dX9_markOf_49 (by decide) ?_
          exact ih17 _ _ _ _ _ _ h _ _ _ (lv_sub hl [1, 2, 3, 4, 0] rfl) w
        · have h := og_t c6 h
          refine lv_iinc (v := (x3 + (1 : Int32))) (lv' := [(3, .int (x3 + (1 : Int32))), (0, .ref (ad 27)), (1, .ref (ad 0)), (2, .int x2), (4, .int x4)]) S.1 S.2.1 dX9_markOf_43 hl (k := 3) rfl rfl (by decide) rfl (fun ls hl => ?_)
          refine lv_iinc (v := (x4 + (1 : Int32))) (lv' := [(4, .int (x4 + (1 : Int32))), (3, .int (x3 + (1 : Int32))), (0, .ref (ad 27)), (1, .ref (ad 0)), (2, .int x2)]) S.1 S.2.1 dX9_markOf_46 hl (k := 4) rfl rfl (by decide) rfl (fun ls hl => ?_)
          refine lv_goto (tgt := 17) S.1 S.2.1 dX9_markOf_49 (by decide) ?_
          exact ih17 _ _ _ _ _ _ h _ _ _ (lv_sub hl [2, 3, 4, 1, 0] rfl) w
  refine lv_aload_n S.1 S.2.1 dX9_markOf_0 rfl (lv_at hl 1 rfl) ?_
  refine lv_dup S.1 S.2.1 dX9_markOf_1 rfl ?_
  refine nX_0_10 S K w (by decide +kernel) dX9_markOf_2 ?_
  refine lv_ldc2 (v := 100) S.1 S.2.1 S.2.2.2.1 (S.2.2.2.2 _ w691) dX9_markOf_5 ?_
  refine lv_ladd S.1 S.2.1 dX9_markOf_8 ?_
  refine mX_0_10 S K w (by decide +kernel) dX9_markOf_9 (fun H locs w => ?_)
  refine lv_iconst (v := 0) S.1 S.2.1 dX9_markOf_12 (by decide) ?_
  refine lv_istore_n (lv' := [(3, .int (0 : Int32)), (0, .ref (ad 27)), (1, .ref (ad 0)), (2, .int a0)]) S.1 S.2.1 dX9_markOf_13 rfl hl (by decide) rfl (fun ls hl => ?_)
  refine lv_iconst (v := 0) S.1 S.2.1 dX9_markOf_14 (by decide) ?_
  refine lv_istore (lv' := [(4, .int (0 : Int32)), (3, .int (0 : Int32)), (0, .ref (ad 27)), (1, .ref (ad 0)), (2, .int a0)]) S.1 S.2.1 dX9_markOf_15 hl (by decide) rfl (fun ls hl => ?_)
  exact j17 1000 _ _ _ _ _ _ h _ _ _ (lv_sub hl [2, 3, 4, 1, 0] rfl) w
set_option maxHeartbeats 4000000 in
set_option maxRecDepth 100000 in
theorem c_X3_markOf_27_0 (l : Launch) (D : va_G) (cs : Nat → ClassId) (ad : Nat → Nat) (F : ZF) (A : ZA) (T : Int64) (a0 : Int32) (q : (Int32 × ZS)) (h : f_X3_markOf_27_0 a0 F A T = some q) : zMi l D cs (XWc cs ad 10 11) yX3_markOf cX3_markOf 3 (some .int) rm_X3_markOf ([.ref (ad 27), .ref (ad 0), .int a0] : List Value) F A T q True := by
  refine z_enteri (by decide) (Nat.le_of_ble_eq_true rfl) ?_
  intro p e s m below meth c A0 ls S K w hA hr hlk hl
  have S : CallFix p m c cX3_markOf 3 s ([.ref (ad 27), .ref (ad 0), .int a0] : List Value).toArray zWs RX3 := S
  have hl : lv_has ls 3 [(0, .ref (ad 27)), (1, .ref (ad 0)), (2, .int a0)] := hl
  unfold f_X3_markOf_27_0 at h
  refine lv_aload_n S.1 S.2.1 dX3_markOf_0 rfl (lv_at hl 1 rfl) ?_
  refine lv_dup S.1 S.2.1 dX3_markOf_1 rfl ?_
  refine nX_0_10 S K w (by decide +kernel) dX3_markOf_2 ?_
  refine lv_ldc2 (v := 10000) S.1 S.2.1 S.2.2.2.1 (S.2.2.2.2 _ w687) dX3_markOf_5 ?_
  refine lv_ladd S.1 S.2.1 dX3_markOf_8 ?_
  refine mX_0_10 S K w (by decide +kernel) dX3_markOf_9 (fun H locs w => ?_)
  refine lv_aload_n S.1 S.2.1 dX3_markOf_12 rfl (lv_at hl 0 rfl) ?_
  refine lv_aload_n S.1 S.2.1 dX3_markOf_13 rfl (lv_at hl 1 rfl) ?_
  refine lv_iload_n S.1 S.2.1 dX3_markOf_14 rfl (lv_at hl 2 rfl) ?_
  obtain ⟨q2, e3, h⟩ := og_b h
  refine z_callUi S K w hA (c_X9_markOf_27_0 l D cs ad F A (T + (10000 : Int64)) a0 q2 e3) (cw_X3_15 S.2.2.2.2 ⟨Nat.le_of_ble_eq_true rfl, Nat.le_of_ble_eq_true rfl⟩) (ci := 3) (C := RX3) rfl (z_recv K w 27 3 rfl rfl) rfl hl.1 rfl (Nat.le_of_ble_eq_true rfl) ⟨Nat.zero_le _, Nat.zero_le _⟩ dX3_markOf_15 (fun b1 H locs w => ?_)
  refine lv_iload_n S.1 S.2.1 dX3_markOf_18 rfl (lv_at hl 2 rfl) ?_
  refine lv_iadd S.1 S.2.1 dX3_markOf_19 ?_
  exact z_reti S w hr hlk dX3_markOf_20 trivial (Option.some.inj h).symm
set_option maxHeartbeats 4000000 in
set_option maxRecDepth 100000 in
theorem c_X0_markOf_28_0 (l : Launch) (D : va_G) (cs : Nat → ClassId) (ad : Nat → Nat) (F : ZF) (A : ZA) (T : Int64) (a0 : Int32) (q : (Int32 × ZS)) (h : f_X0_markOf_28_0 a0 F A T = some q) : zMi l D cs (XWc cs ad 10 11) yX0_markOf cX0_markOf 3 (some .int) rm_X0_markOf ([.ref (ad 28), .ref (ad 0), .int a0] : List Value) F A T q True := by
  refine z_enteri (by decide) (Nat.le_of_ble_eq_true rfl) ?_
  intro p e s m below meth c A0 ls S K w hA hr hlk hl
  have S : CallFix p m c cX0_markOf 3 s ([.ref (ad 28), .ref (ad 0), .int a0] : List Value).toArray zWs RX0 := S
  have hl : lv_has ls 3 [(0, .ref (ad 28)), (1, .ref (ad 0)), (2, .int a0)] := hl
  unfold f_X0_markOf_28_0 at h
  refine lv_aload_n S.1 S.2.1 dX0_markOf_0 rfl (lv_at hl 1 rfl) ?_
  refine lv_dup S.1 S.2.1 dX0_markOf_1 rfl ?_
  refine nX_0_10 S K w (by decide +kernel) dX0_markOf_2 ?_
  refine lv_lconst (v := 1) S.1 S.2.1 dX0_markOf_5 (by decide) ?_
  refine lv_ladd S.1 S.2.1 dX0_markOf_6 ?_
  refine mX_0_10 S K w (by decide +kernel) dX0_markOf_7 (fun H locs w => ?_)
  refine lv_aload_n S.1 S.2.1 dX0_markOf_10 rfl (lv_at hl 1 rfl) ?_
  refine nX_0_1 S K w (by decide +kernel) dX0_markOf_11 ?_
  refine gX_2_0 S K w w123 dX0_markOf_14 ?_
  refine lv_iload_n S.1 S.2.1 dX0_markOf_17 rfl (lv_at hl 2 rfl) ?_
  obtain ⟨g1, h⟩ := og_g h
  refine aX_14 S K w g1 dX0_markOf_18 ?_
  exact z_reti S w hr hlk dX0_markOf_19 trivial (Option.some.inj h).symm
set_option maxHeartbeats 4000000 in
set_option maxRecDepth 100000 in
theorem c_X4_markOf_28_0 (l : Launch) (D : va_G) (cs : Nat → ClassId) (ad : Nat → Nat) (F : ZF) (A : ZA) (T : Int64) (a0 : Int32) (q : (Int32 × ZS)) (h : f_X4_markOf_28_0 a0 F A T = some q) : zMi l D cs (XWc cs ad 10 11) yX4_markOf cX4_markOf 3 (some .int) rm_X4_markOf ([.ref (ad 28), .ref (ad 0), .int a0] : List Value) F A T q True := by
  refine z_enteri (by decide) (Nat.le_of_ble_eq_true rfl) ?_
  intro p e s m below meth c A0 ls S K w hA hr hlk hl
  have S : CallFix p m c cX4_markOf 3 s ([.ref (ad 28), .ref (ad 0), .int a0] : List Value).toArray zWs RX4 := S
  have hl : lv_has ls 3 [(0, .ref (ad 28)), (1, .ref (ad 0)), (2, .int a0)] := hl
  unfold f_X4_markOf_28_0 at h
  refine lv_aload_n S.1 S.2.1 dX4_markOf_0 rfl (lv_at hl 1 rfl) ?_
  refine lv_dup S.1 S.2.1 dX4_markOf_1 rfl ?_
  refine nX_0_10 S K w (by decide +kernel) dX4_markOf_2 ?_
  refine lv_ldc2 (v := 100000) S.1 S.2.1 S.2.2.2.1 (S.2.2.2.2 _ w696) dX4_markOf_5 ?_
  refine lv_ladd S.1 S.2.1 dX4_markOf_8 ?_
  refine mX_0_10 S K w (by decide +kernel) dX4_markOf_9 (fun H locs w => ?_)
  refine lv_aload_n S.1 S.2.1 dX4_markOf_12 rfl (lv_at hl 0 rfl) ?_
  refine lv_aload_n S.1 S.2.1 dX4_markOf_13 rfl (lv_at hl 1 rfl) ?_
  refine lv_iload_n S.1 S.2.1 dX4_markOf_14 rfl (lv_at hl 2 rfl) ?_
  obtain ⟨q2, e3, h⟩ := og_b h
  refine z_callUi S K w hA (c_X0_markOf_28_0 l D cs ad F A (T + (100000 : Int64)) a0 q2 e3) (cw_X4_15 S.2.2.2.2 ⟨Nat.le_of_ble_eq_true rfl, Nat.le_of_ble_eq_true rfl⟩) (ci := 4) (C := RX4) rfl (z_recv K w 28 4 rfl rfl) rfl hl.1 rfl (Nat.le_of_ble_eq_true rfl) ⟨Nat.zero_le _, Nat.zero_le _⟩ dX4_markOf_15 (fun b1 H locs w => ?_)
  refine lv_aload_n S.1 S.2.1 dX4_markOf_18 rfl (lv_at hl 1 rfl) ?_
  refine nX_0_2 S K w (by decide +kernel) dX4_markOf_19 ?_
  refine gX_3_0 S K w w153 dX4_markOf_22 ?_
  refine z_callSr S K w hA (c_J6_bitCount_0f7a4 l D cs ad q2.2.1 q2.2.2.1 q2.2.2.2 (q2.2.1 10) (f_J6_bitCount_0f7a4 (q2.2.1 10)) rfl) (cw_X4_29 S.2.2.2.2 ⟨Nat.le_of_ble_eq_true rfl, Nat.le_of_ble_eq_true rfl⟩) rfl hl.1 rfl (Nat.le_of_ble_eq_true rfl) ⟨Nat.zero_le _, Nat.zero_le _⟩ dX4_markOf_25 (fun b4 H locs w => ?_)
  refine lv_iadd S.1 S.2.1 dX4_markOf_28 ?_
  exact z_reti S w hr hlk dX4_markOf_29 trivial (Option.some.inj h).symm
set_option maxHeartbeats 4000000 in
set_option maxRecDepth 100000 in
theorem c_X10_mark (l : Launch) (D : va_G) (cs : Nat → ClassId) (ad : Nat → Nat) (F : ZF) (A : ZA) (T : Int64) (a0 a1 : Int32) (q : (Int32 × ZS)) (h : f_X10_mark a0 a1 F A T = some q) : zMi l D cs (XWc cs ad 10 11) yX10_mark cX10_mark 3 (some .int) rm_X10_mark ([.ref (ad 0), .int a0, .int a1] : List Value) F A T q True := by
  refine z_enteri (by decide) (Nat.le_of_ble_eq_true rfl) ?_
  intro p e s m below meth c A0 ls S K w hA hr hlk hl
  have S : CallFix p m c cX10_mark 3 s ([.ref (ad 0), .int a0, .int a1] : List Value).toArray zWs RX10 := S
  have hl : lv_has ls 3 [(0, .ref (ad 0)), (1, .int a0), (2, .int a1)] := hl
  unfold f_X10_mark at h
  refine lv_iload_n S.1 S.2.1 dX10_mark_0 rfl (lv_at hl 1 rfl) ?_
  refine lv_iconst (v := 0) S.1 S.2.1 dX10_mark_1 (by decide) ?_
  refine lv_aload_n S.1 S.2.1 dX10_mark_2 rfl (lv_at hl 0 rfl) ?_
  refine gX_0_5 S K w w318 dX10_mark_3 ?_
  refine va_alen S.1 S.2.1 K.1 w.1 6 3 rfl rfl (v := 6) rfl dX10_mark_6 ?_
  refine lv_iconst (v := 1) S.1 S.2.1 dX10_mark_7 (by decide) ?_
  refine lv_isub S.1 S.2.1 dX10_mark_8 ?_
  refine z_callSr S K w hA (c_X10_within l D cs ad F A T a0 (0 : Int32) ((6 : Int32) - (1 : Int32)) (f_X10_within a0 (0 : Int32) ((6 : Int32) - (1 : Int32))) rfl) (cw_X10_90 S.2.2.2.2 ⟨Nat.le_of_ble_eq_true rfl, Nat.le_of_ble_eq_true rfl⟩) rfl hl.1 rfl (Nat.le_of_ble_eq_true rfl) ⟨Nat.zero_le _, Nat.zero_le _⟩ dX10_mark_9 (fun b1 H locs w => ?_)
  refine lv_if_eq (tgt := 23) S.1 S.2.1 dX10_mark_12 (by decide) (fun c2 => ?_) (fun c2 => ?_)
  · have h := og_t c2 h
    refine lv_ldc (v := -1000000) S.1 S.2.1 S.2.2.2.1 (S.2.2.2.2 _ w491) dX10_mark_23 ?_
    exact z_reti S w hr hlk dX10_mark_25 trivial (Option.some.inj h).symm
  · have h := og_f c2 h
    refine lv_aload_n S.1 S.2.1 dX10_mark_15 rfl (lv_at hl 0 rfl) ?_
    refine lv_iload_n S.1 S.2.1 dX10_mark_16 rfl (lv_at hl 2 rfl) ?_
    refine z_callVr S K w hA (c_X10_isSuspect l D cs ad F A T a1 (f_X10_isSuspect a1 F A T) rfl) (cw_X10_107 S.2.2.2.2 ⟨Nat.le_of_ble_eq_true rfl, Nat.le_of_ble_eq_true rfl⟩) (z_recv K w 0 10 rfl rfl) rfl hl.1 rfl (Nat.le_of_ble_eq_true rfl) ⟨Nat.zero_le _, Nat.zero_le _⟩ dX10_mark_17 (fun b3 H locs w => ?_)
    refine lv_if_ne (tgt := 26) S.1 S.2.1 dX10_mark_20 (by decide) (fun c4 => ?_) (fun c4 => ?_)
    · have h := og_f c4 h
      refine lv_aload_n S.1 S.2.1 dX10_mark_26 rfl (lv_at hl 0 rfl) ?_
      obtain ⟨q5, e6, h⟩ := og_b h
      refine z_callVv S K w hA (c_X10_weighNow l D cs ad F A T q5 e6) (cw_X10_111 S.2.2.2.2 ⟨Nat.le_of_ble_eq_true rfl, Nat.le_of_ble_eq_true rfl⟩) (z_recv K w 0 10 rfl rfl) rfl hl.1 rfl (Nat.le_of_ble_eq_true rfl) ⟨Nat.zero_le _, Nat.zero_le _⟩ dX10_mark_27 (fun H locs w => ?_)
      refine lv_aload_n S.1 S.2.1 dX10_mark_30 rfl (lv_at hl 0 rfl) ?_
      refine gX_0_5 S K w w318 dX10_mark_31 ?_
      refine lv_iload_n S.1 S.2.1 dX10_mark_34 rfl (lv_at hl 1 rfl) ?_
      by_cases c7 : a0 = (0 : Int32)
      · have h := og_t c7 h
        refine rX_6_0 S K w c7 dX10_mark_35 ?_
        refine lv_aload_n S.1 S.2.1 dX10_mark_36 rfl (lv_at hl 0 rfl) ?_
        refine lv_iload_n S.1 S.2.1 dX10_mark_37 rfl (lv_at hl 2 rfl) ?_
        obtain ⟨q9, e10, h⟩ := og_b h
        refine z_callVi S K w hA (c_X0_markOf_23_0 l D cs ad q5.1 q5.2.1 q5.2.2 a1 q9 e10) (cw_X10_247 S.2.2.2.2 ⟨Nat.le_of_ble_eq_true rfl, Nat.le_of_ble_eq_true rfl⟩) (z_recv K w 23 0 rfl rfl) rfl hl.1 rfl (Nat.le_of_ble_eq_true rfl) ⟨Nat.zero_le _, Nat.zero_le _⟩ dX10_mark_38 (fun b8 H locs w => ?_)
        exact z_reti S w hr hlk dX10_mark_41 trivial (Option.some.inj h).symm
      · have h := og_f c7 h
        by_cases c11 : a0 = (1 : Int32)
        · have h := og_t c11 h
          refine rX_6_1 S K w c11 dX10_mark_35 ?_
          refine lv_aload_n S.1 S.2.1 dX10_mark_36 rfl (lv_at hl 0 rfl) ?_
          refine lv_iload_n S.1 S.2.1 dX10_mark_37 rfl (lv_at hl 2 rfl) ?_
          obtain ⟨q13, e14, h⟩ := og_b h
          refine z_callOi S K w hA (c_X8_markOf_24_0 l D cs ad q5.1 q5.2.1 q5.2.2 a1 q13 e14) (cw_X10_247_X8 S.2.2.2.2 ⟨Nat.le_of_ble_eq_true rfl, Nat.le_of_ble_eq_true rfl⟩) (z_recv K w 24 8 rfl rfl) rfl hl.1 rfl (Nat.le_of_ble_eq_true rfl) ⟨Nat.zero_le _, Nat.zero_le _⟩ dX10_mark_38 (fun b12 H locs w => ?_)
          exact z_reti S w hr hlk dX10_mark_41 trivial (Option.some.inj h).symm
        · have h := og_f c11 h
          by_cases c15 : a0 = (2 : Int32)
          · have h := og_t c15 h
            refine rX_6_2 S K w c15 dX10_mark_35 ?_
            refine lv_aload_n S.1 S.2.1 dX10_mark_36 rfl (lv_at hl 0 rfl) ?_
            refine lv_iload_n S.1 S.2.1 dX10_mark_37 rfl (lv_at hl 2 rfl) ?_
            obtain ⟨q17, e18, h⟩ := og_b h
            refine z_callOi S K w hA (c_X9_markOf_25_0 l D cs ad q5.1 q5.2.1 q5.2.2 a1 q17 e18) (cw_X10_247_X9 S.2.2.2.2 ⟨Nat.le_of_ble_eq_true rfl, Nat.le_of_ble_eq_true rfl⟩) (z_recv K w 25 9 rfl rfl) rfl hl.1 rfl (Nat.le_of_ble_eq_true rfl) ⟨Nat.zero_le _, Nat.zero_le _⟩ dX10_mark_38 (fun b16 H locs w => ?_)
            exact z_reti S w hr hlk dX10_mark_41 trivial (Option.some.inj h).symm
          · have h := og_f c15 h
            by_cases c19 : a0 = (3 : Int32)
            · have h := og_t c19 h
              refine rX_6_3 S K w c19 dX10_mark_35 ?_
              refine lv_aload_n S.1 S.2.1 dX10_mark_36 rfl (lv_at hl 0 rfl) ?_
              refine lv_iload_n S.1 S.2.1 dX10_mark_37 rfl (lv_at hl 2 rfl) ?_
              obtain ⟨q21, e22, h⟩ := og_b h
              refine z_callOi S K w hA (c_X2_markOf_26_0 l D cs ad q5.1 q5.2.1 q5.2.2 a1 q21 e22) (cw_X10_247_X2 S.2.2.2.2 ⟨Nat.le_of_ble_eq_true rfl, Nat.le_of_ble_eq_true rfl⟩) (z_recv K w 26 2 rfl rfl) rfl hl.1 rfl (Nat.le_of_ble_eq_true rfl) ⟨Nat.zero_le _, Nat.zero_le _⟩ dX10_mark_38 (fun b20 H locs w => ?_)
              exact z_reti S w hr hlk dX10_mark_41 trivial (Option.some.inj h).symm
            · have h := og_f c19 h
              by_cases c23 : a0 = (4 : Int32)
              · have h := og_t c23 h
                refine rX_6_4 S K w c23 dX10_mark_35 ?_
                refine lv_aload_n S.1 S.2.1 dX10_mark_36 rfl (lv_at hl 0 rfl) ?_
                refine lv_iload_n S.1 S.2.1 dX10_mark_37 rfl (lv_at hl 2 rfl) ?_
                obtain ⟨q25, e26, h⟩ := og_b h
                refine z_callOi S K w hA (c_X3_markOf_27_0 l D cs ad q5.1 q5.2.1 q5.2.2 a1 q25 e26) (cw_X10_247_X3 S.2.2.2.2 ⟨Nat.le_of_ble_eq_true rfl, Nat.le_of_ble_eq_true rfl⟩) (z_recv K w 27 3 rfl rfl) rfl hl.1 rfl (Nat.le_of_ble_eq_true rfl) ⟨Nat.zero_le _, Nat.zero_le _⟩ dX10_mark_38 (fun b24 H locs w => ?_)
                exact z_reti S w hr hlk dX10_mark_41 trivial (Option.some.inj h).symm
              · have h := og_f c23 h
                by_cases c27 : a0 = (5 : Int32)
                · have h := og_t c27 h
                  refine rX_6_5 S K w c27 dX10_mark_35 ?_
                  refine lv_aload_n S.1 S.2.1 dX10_mark_36 rfl (lv_at hl 0 rfl) ?_
                  refine lv_iload_n S.1 S.2.1 dX10_mark_37 rfl (lv_at hl 2 rfl) ?_
                  obtain ⟨q29, e30, h⟩ := og_b h
                  refine z_callOi S K w hA (c_X4_markOf_28_0 l D cs ad q5.1 q5.2.1 q5.2.2 a1 q29 e30) (cw_X10_247_X4 S.2.2.2.2 ⟨Nat.le_of_ble_eq_true rfl, Nat.le_of_ble_eq_true rfl⟩) (z_recv K w 28 4 rfl rfl) rfl hl.1 rfl (Nat.le_of_ble_eq_true rfl) ⟨Nat.zero_le _, Nat.zero_le _⟩ dX10_mark_38 (fun b28 H locs w => ?_)
                  exact z_reti S w hr hlk dX10_mark_41 trivial (Option.some.inj h).symm
                · have h := og_f c27 h
                  cases h
    · have h := og_t c4 h
      refine lv_ldc (v := -1000000) S.1 S.2.1 S.2.2.2.1 (S.2.2.2.2 _ w491) dX10_mark_23 ?_
      exact z_reti S w hr hlk dX10_mark_25 trivial (Option.some.inj h).symm
set_option maxHeartbeats 4000000 in
set_option maxRecDepth 100000 in
theorem c_X1_beginAnew_10 (l : Launch) (D : va_G) (cs : Nat → ClassId) (ad : Nat → Nat) (F : ZF) (A : ZA) (T : Int64) (q : ZS) (h : f_X1_beginAnew_10 F A T = some q) : zMv l D cs (XWc cs ad 10 11) yX1_beginAnew cX1_beginAnew 1 none rm_X1_beginAnew ([.ref (ad 10)] : List Value) F A T q := by
  refine z_enterv (by decide) (Nat.le_of_ble_eq_true rfl) ?_
  intro p e s m below meth c A0 ls S K w hA hr hlk hl
  have S : CallFix p m c cX1_beginAnew 1 s ([.ref (ad 10)] : List Value).toArray zWs RX1 := S
  have hl : lv_has ls 1 [(0, .ref (ad 10))] := hl
  unfold f_X1_beginAnew_10 at h
  refine lv_aload_n S.1 S.2.1 dX1_beginAnew_0 rfl (lv_at hl 0 rfl) ?_
  refine lv_iconst (v := 0) S.1 S.2.1 dX1_beginAnew_1 (by decide) ?_
  refine pX_10_0 S K w w224 dX1_beginAnew_2 (fun H locs w => ?_)
  refine lv_aload_n S.1 S.2.1 dX1_beginAnew_5 rfl (lv_at hl 0 rfl) ?_
  refine lv_iconst (v := 0) S.1 S.2.1 dX1_beginAnew_6 (by decide) ?_
  refine pX_10_1 S K w w228 dX1_beginAnew_7 (fun H locs w => ?_)
  refine lv_aload_n S.1 S.2.1 dX1_beginAnew_10 rfl (lv_at hl 0 rfl) ?_
  refine lv_iconst (v := 0) S.1 S.2.1 dX1_beginAnew_11 (by decide) ?_
  refine pX_10_2 S K w w232 dX1_beginAnew_12 (fun H locs w => ?_)
  refine lv_aload_n S.1 S.2.1 dX1_beginAnew_15 rfl (lv_at hl 0 rfl) ?_
  refine lv_bipush (v := 8) S.1 S.2.1 dX1_beginAnew_16 (by decide) ?_
  refine pX_10_3 S K w w238 dX1_beginAnew_18 (fun H locs w => ?_)
  refine lv_aload_n S.1 S.2.1 dX1_beginAnew_21 rfl (lv_at hl 0 rfl) ?_
  refine lv_bipush (v := 15) S.1 S.2.1 dX1_beginAnew_22 (by decide) ?_
  refine pX_10_4 S K w w242 dX1_beginAnew_24 (fun H locs w => ?_)
  refine lv_aload_n S.1 S.2.1 dX1_beginAnew_27 rfl (lv_at hl 0 rfl) ?_
  refine lv_bipush (v := 10) S.1 S.2.1 dX1_beginAnew_28 (by decide) ?_
  refine pX_10_5 S K w w246 dX1_beginAnew_30 (fun H locs w => ?_)
  exact z_retv S w hr hlk dX1_beginAnew_33 (Option.some.inj h).symm
