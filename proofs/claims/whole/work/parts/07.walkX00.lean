set_option maxHeartbeats 4000000 in
set_option maxRecDepth 100000 in
theorem c_X10_within (l : Launch) (D : va_G) (cs : Nat → ClassId) (ad : Nat → Nat) (F : ZF) (A : ZA) (T : Int64) (a0 a1 a2 : Int32) (q : Int32) (h : f_X10_within a0 a1 a2 = q) : zMi l D cs (XWc cs ad 10 11) yX10_within cX10_within 3 (some .boolean) rm_X10_within ([.int a0, .int a1, .int a2] : List Value) F A T ((q, F, A, T) : Int32 × ZS) (((q, F, A, T) : Int32 × ZS).1 &&& 1 = ((q, F, A, T) : Int32 × ZS).1) := by
  refine z_enteri (by decide) (Nat.le_of_ble_eq_true rfl) ?_
  intro p e s m below meth c A0 ls S K w hA hr hlk hl
  have S : CallFix p m c cX10_within 3 s ([.int a0, .int a1, .int a2] : List Value).toArray zWs RX10 := S
  have hl : lv_has ls 3 [(0, .int a0), (1, .int a1), (2, .int a2)] := hl
  unfold f_X10_within at h
  refine lv_iload_n S.1 S.2.1 dX10_within_0 rfl (lv_at hl 0 rfl) ?_
  refine lv_iload_n S.1 S.2.1 dX10_within_1 rfl (lv_at hl 1 rfl) ?_
  refine lv_icmp_lt (tgt := 14) S.1 S.2.1 dX10_within_2 (by decide) (fun c1 => ?_) (fun c1 => ?_)
  · have h := og_t c1 h
    refine lv_iconst (v := 0) S.1 S.2.1 dX10_within_14 (by decide) ?_
    exact z_retz S w hr hlk dX10_within_15 (by decide) (by rw [← h])
  · have h := og_f c1 h
    refine lv_iload_n S.1 S.2.1 dX10_within_5 rfl (lv_at hl 0 rfl) ?_
    refine lv_iload_n S.1 S.2.1 dX10_within_6 rfl (lv_at hl 2 rfl) ?_
    refine lv_icmp_gt (tgt := 14) S.1 S.2.1 dX10_within_7 (by decide) (fun c2 => ?_) (fun c2 => ?_)
    · have h := og_t c2 h
      refine lv_iconst (v := 0) S.1 S.2.1 dX10_within_14 (by decide) ?_
      exact z_retz S w hr hlk dX10_within_15 (by decide) (by rw [← h])
    · have h := og_f c2 h
      refine lv_iconst (v := 1) S.1 S.2.1 dX10_within_10 (by decide) ?_
      refine lv_goto (tgt := 15) S.1 S.2.1 dX10_within_11 (by decide) ?_
      exact z_retz S w hr hlk dX10_within_15 (by decide) (by rw [← h])
set_option maxHeartbeats 4000000 in
set_option maxRecDepth 100000 in
theorem c_X10_type (l : Launch) (D : va_G) (cs : Nat → ClassId) (ad : Nat → Nat) (F : ZF) (A : ZA) (T : Int64) (a0 : Int32) (q : (Int32 × ZS)) (h : f_X10_type a0 F A T = some q) : zMi l D cs (XWc cs ad 10 11) yX10_type cX10_type 2 (some .int) rm_X10_type ([.ref (ad 0), .int a0] : List Value) F A T q True := by
  refine z_enteri (by decide) (Nat.le_of_ble_eq_true rfl) ?_
  intro p e s m below meth c A0 ls S K w hA hr hlk hl
  have S : CallFix p m c cX10_type 2 s ([.ref (ad 0), .int a0] : List Value).toArray zWs RX10 := S
  have hl : lv_has ls 2 [(0, .ref (ad 0)), (1, .int a0)] := hl
  unfold f_X10_type at h
  refine lv_iload_n S.1 S.2.1 dX10_type_0 rfl (lv_at hl 1 rfl) ?_
  refine lv_iconst (v := 0) S.1 S.2.1 dX10_type_1 (by decide) ?_
  refine lv_sipush (v := 255) S.1 S.2.1 dX10_type_2 (by decide) ?_
  refine z_callSr S K w hA (c_X10_within l D cs ad F A T a0 (0 : Int32) (255 : Int32) (f_X10_within a0 (0 : Int32) (255 : Int32)) rfl) (cw_X10_90 S.2.2.2.2 ⟨Nat.le_of_ble_eq_true rfl, Nat.le_of_ble_eq_true rfl⟩) rfl hl.1 rfl (Nat.le_of_ble_eq_true rfl) ⟨Nat.zero_le _, Nat.zero_le _⟩ dX10_type_5 (fun b1 H locs w => ?_)
  refine lv_if_ne (tgt := 13) S.1 S.2.1 dX10_type_8 (by decide) (fun c2 => ?_) (fun c2 => ?_)
  · have h := og_f c2 h
    refine lv_aload_n S.1 S.2.1 dX10_type_13 rfl (lv_at hl 0 rfl) ?_
    refine gX_0_0 S K w w311 dX10_type_14 ?_
    refine gX_1_1 S K w w87 dX10_type_17 ?_
    refine lv_sipush (v := 200) S.1 S.2.1 dX10_type_20 (by decide) ?_
    refine lv_icmp_lt (tgt := 29) S.1 S.2.1 dX10_type_23 (by decide) (fun c3 => ?_) (fun c3 => ?_)
    · have h := og_t c3 h
      refine lv_aload_n S.1 S.2.1 dX10_type_29 rfl (lv_at hl 0 rfl) ?_
      refine gX_0_0 S K w w311 dX10_type_30 ?_
      refine gX_1_0 S K w w86 dX10_type_33 ?_
      refine lv_aload_n S.1 S.2.1 dX10_type_36 rfl (lv_at hl 0 rfl) ?_
      refine gX_0_0 S K w w311 dX10_type_37 ?_
      refine gX_1_1 S K w w87 dX10_type_40 ?_
      refine lv_iload_n S.1 S.2.1 dX10_type_43 rfl (lv_at hl 1 rfl) ?_
      obtain ⟨g4, h⟩ := og_g h
      refine sX_12 S K w g4 dX10_type_44 (fun H locs w => ?_)
      refine lv_aload_n S.1 S.2.1 dX10_type_45 rfl (lv_at hl 0 rfl) ?_
      refine gX_0_0 S K w w311 dX10_type_46 ?_
      refine lv_dup S.1 S.2.1 dX10_type_49 rfl ?_
      refine gX_1_1 S K w w87 dX10_type_50 ?_
      refine lv_iconst (v := 1) S.1 S.2.1 dX10_type_53 (by decide) ?_
      refine lv_iadd S.1 S.2.1 dX10_type_54 ?_
      refine pX_1_1 S K w w87 dX10_type_55 (fun H locs w => ?_)
      refine lv_aload_n S.1 S.2.1 dX10_type_58 rfl (lv_at hl 0 rfl) ?_
      refine gX_0_0 S K w w311 dX10_type_59 ?_
      refine gX_1_1 S K w w87 dX10_type_62 ?_
      exact z_reti S w hr hlk dX10_type_65 trivial (Option.some.inj h).symm
    · have h := og_f c3 h
      refine lv_bipush (v := -3) S.1 S.2.1 dX10_type_26 (by decide) ?_
      exact z_reti S w hr hlk dX10_type_28 trivial (Option.some.inj h).symm
  · have h := og_t c2 h
    refine lv_iconst (v := -1) S.1 S.2.1 dX10_type_11 (by decide) ?_
    exact z_reti S w hr hlk dX10_type_12 trivial (Option.some.inj h).symm
set_option maxHeartbeats 4000000 in
set_option maxRecDepth 100000 in
theorem c_X10_clear (l : Launch) (D : va_G) (cs : Nat → ClassId) (ad : Nat → Nat) (F : ZF) (A : ZA) (T : Int64) (q : (Int32 × ZS)) (h : f_X10_clear F A T = some q) : zMi l D cs (XWc cs ad 10 11) yX10_clear cX10_clear 2 (some .int) rm_X10_clear ([.ref (ad 0)] : List Value) F A T q True := by
  refine z_enteri (by decide) (Nat.le_of_ble_eq_true rfl) ?_
  intro p e s m below meth c A0 ls S K w hA hr hlk hl
  have S : CallFix p m c cX10_clear 2 s ([.ref (ad 0)] : List Value).toArray zWs RX10 := S
  have hl : lv_has ls 2 [(0, .ref (ad 0))] := hl
  unfold f_X10_clear at h
  refine lv_aload_n S.1 S.2.1 dX10_clear_0 rfl (lv_at hl 0 rfl) ?_
  refine gX_0_0 S K w w311 dX10_clear_1 ?_
  refine gX_1_1 S K w w87 dX10_clear_4 ?_
  refine lv_istore_n (lv' := [(1, .int (F 1)), (0, .ref (ad 0))]) S.1 S.2.1 dX10_clear_7 rfl hl (by decide) rfl (fun ls hl => ?_)
  refine lv_aload_n S.1 S.2.1 dX10_clear_8 rfl (lv_at hl 1 rfl) ?_
  refine gX_0_0 S K w w311 dX10_clear_9 ?_
  refine lv_iconst (v := 0) S.1 S.2.1 dX10_clear_12 (by decide) ?_
  refine pX_1_1 S K w w87 dX10_clear_13 (fun H locs w => ?_)
  refine lv_iload_n S.1 S.2.1 dX10_clear_16 rfl (lv_at hl 0 rfl) ?_
  exact z_reti S w hr hlk dX10_clear_17 trivial (Option.some.inj h).symm
set_option maxHeartbeats 4000000 in
set_option maxRecDepth 100000 in
theorem c_X10_isSuspect (l : Launch) (D : va_G) (cs : Nat → ClassId) (ad : Nat → Nat) (F : ZF) (A : ZA) (T : Int64) (a0 : Int32) (q : Int32) (h : f_X10_isSuspect a0 F A T = q) : zMi l D cs (XWc cs ad 10 11) yX10_isSuspect cX10_isSuspect 2 (some .boolean) rm_X10_isSuspect ([.ref (ad 0), .int a0] : List Value) F A T ((q, F, A, T) : Int32 × ZS) (((q, F, A, T) : Int32 × ZS).1 &&& 1 = ((q, F, A, T) : Int32 × ZS).1) := by
  refine z_enteri (by decide) (Nat.le_of_ble_eq_true rfl) ?_
  intro p e s m below meth c A0 ls S K w hA hr hlk hl
  have S : CallFix p m c cX10_isSuspect 2 s ([.ref (ad 0), .int a0] : List Value).toArray zWs RX10 := S
  have hl : lv_has ls 2 [(0, .ref (ad 0)), (1, .int a0)] := hl
  unfold f_X10_isSuspect at h
  refine lv_iload_n S.1 S.2.1 dX10_isSuspect_0 rfl (lv_at hl 1 rfl) ?_
  refine lv_iconst (v := 0) S.1 S.2.1 dX10_isSuspect_1 (by decide) ?_
  refine lv_aload_n S.1 S.2.1 dX10_isSuspect_2 rfl (lv_at hl 0 rfl) ?_
  refine gX_0_11 S K w w330 dX10_isSuspect_3 ?_
  refine gX_10_0 S K w w227 dX10_isSuspect_6 ?_
  refine lv_iconst (v := 1) S.1 S.2.1 dX10_isSuspect_9 (by decide) ?_
  refine lv_isub S.1 S.2.1 dX10_isSuspect_10 ?_
  refine z_callSr S K w hA (c_X10_within l D cs ad F A T a0 (0 : Int32) ((F 22) - (1 : Int32)) (f_X10_within a0 (0 : Int32) ((F 22) - (1 : Int32))) rfl) (cw_X10_90 S.2.2.2.2 ⟨Nat.le_of_ble_eq_true rfl, Nat.le_of_ble_eq_true rfl⟩) rfl hl.1 rfl (Nat.le_of_ble_eq_true rfl) ⟨Nat.zero_le _, Nat.zero_le _⟩ dX10_isSuspect_11 (fun b1 H locs w => ?_)
  exact z_retz S w hr hlk dX10_isSuspect_14 b1 (by rw [← h])
set_option maxHeartbeats 4000000 in
set_option maxRecDepth 100000 in
theorem c_X5_hoursFromTo (l : Launch) (D : va_G) (cs : Nat → ClassId) (ad : Nat → Nat) (F : ZF) (A : ZA) (T : Int64) (a0 a1 : Int32) (q : Int32) (h : f_X5_hoursFromTo a0 a1 = q) : zMi l D cs (XWc cs ad 10 11) yX5_hoursFromTo cX5_hoursFromTo 2 (some .int) rm_X5_hoursFromTo ([.int a0, .int a1] : List Value) F A T ((q, F, A, T) : Int32 × ZS) True := by
  refine z_enteri (by decide) (Nat.le_of_ble_eq_true rfl) ?_
  intro p e s m below meth c A0 ls S K w hA hr hlk hl
  have S : CallFix p m c cX5_hoursFromTo 2 s ([.int a0, .int a1] : List Value).toArray zWs RX5 := S
  have hl : lv_has ls 2 [(0, .int a0), (1, .int a1)] := hl
  unfold f_X5_hoursFromTo at h
  refine lv_iconst (v := 1) S.1 S.2.1 dX5_hoursFromTo_0 (by decide) ?_
  refine lv_iload_n S.1 S.2.1 dX5_hoursFromTo_1 rfl (lv_at hl 1 rfl) ?_
  refine lv_iconst (v := 1) S.1 S.2.1 dX5_hoursFromTo_2 (by decide) ?_
  refine lv_iadd S.1 S.2.1 dX5_hoursFromTo_3 ?_
  refine lv_ishl S.1 S.2.1 dX5_hoursFromTo_4 ?_
  refine lv_iconst (v := 1) S.1 S.2.1 dX5_hoursFromTo_5 (by decide) ?_
  refine lv_iload_n S.1 S.2.1 dX5_hoursFromTo_6 rfl (lv_at hl 0 rfl) ?_
  refine lv_ishl S.1 S.2.1 dX5_hoursFromTo_7 ?_
  refine lv_isub S.1 S.2.1 dX5_hoursFromTo_8 ?_
  exact z_reti S w hr hlk dX5_hoursFromTo_9 trivial (by rw [← h])
set_option maxHeartbeats 4000000 in
set_option maxRecDepth 100000 in
theorem c_J6_bitCount_0f7a4 (l : Launch) (D : va_G) (cs : Nat → ClassId) (ad : Nat → Nat) (F : ZF) (A : ZA) (T : Int64) (a0 : Int32) (q : Int32) (h : f_J6_bitCount_0f7a4 a0 = q) : zMi l D cs (XWc cs ad 10 11) yJ6_bitCount_0f7a4 cJ6_bitCount_0f7a4 1 (some .int) rm_J6_bitCount_0f7a4 ([.int a0] : List Value) F A T ((q, F, A, T) : Int32 × ZS) True := by
  refine z_enteri (by decide) (Nat.le_of_ble_eq_true rfl) ?_
  intro p e s m below meth c A0 ls S K w hA hr hlk hl
  have S : CallFix p m c cJ6_bitCount_0f7a4 1 s ([.int a0] : List Value).toArray zWs RJ6 := S
  have hl : lv_has ls 1 [(0, .int a0)] := hl
  unfold f_J6_bitCount_0f7a4 at h
  refine lv_iload_n S.1 S.2.1 dJ6_bitCount_0f7a4_0 rfl (lv_at hl 0 rfl) ?_
  refine lv_iload_n S.1 S.2.1 dJ6_bitCount_0f7a4_1 rfl (lv_at hl 0 rfl) ?_
  refine lv_iconst (v := 1) S.1 S.2.1 dJ6_bitCount_0f7a4_2 (by decide) ?_
  refine lv_iushr S.1 S.2.1 dJ6_bitCount_0f7a4_3 rfl ?_
  refine lv_ldcw (v := 1431655765) S.1 S.2.1 S.2.2.2.1 (S.2.2.2.2 _ w456) dJ6_bitCount_0f7a4_4 ?_
  refine lv_iand S.1 S.2.1 dJ6_bitCount_0f7a4_7 ?_
  refine lv_isub S.1 S.2.1 dJ6_bitCount_0f7a4_8 ?_
  refine lv_istore_n (lv' := [(0, .int (a0 - ((((a0).toUInt32 >>> (((1 : Int32)).toUInt32 &&& Int32.toUInt32 31)).toInt32) &&& (1431655765 : Int32))))]) S.1 S.2.1 dJ6_bitCount_0f7a4_9 rfl hl (by decide) rfl (fun ls hl => ?_)
  refine lv_iload_n S.1 S.2.1 dJ6_bitCount_0f7a4_10 rfl (lv_at hl 0 rfl) ?_
  refine lv_ldcw (v := 858993459) S.1 S.2.1 S.2.2.2.1 (S.2.2.2.2 _ w457) dJ6_bitCount_0f7a4_11 ?_
  refine lv_iand S.1 S.2.1 dJ6_bitCount_0f7a4_14 ?_
  refine lv_iload_n S.1 S.2.1 dJ6_bitCount_0f7a4_15 rfl (lv_at hl 0 rfl) ?_
  refine lv_iconst (v := 2) S.1 S.2.1 dJ6_bitCount_0f7a4_16 (by decide) ?_
  refine lv_iushr S.1 S.2.1 dJ6_bitCount_0f7a4_17 rfl ?_
  refine lv_ldcw (v := 858993459) S.1 S.2.1 S.2.2.2.1 (S.2.2.2.2 _ w457) dJ6_bitCount_0f7a4_18 ?_
  refine lv_iand S.1 S.2.1 dJ6_bitCount_0f7a4_21 ?_
  refine lv_iadd S.1 S.2.1 dJ6_bitCount_0f7a4_22 ?_
  refine lv_istore_n (lv' := [(0, .int (((a0 - ((((a0).toUInt32 >>> (((1 : Int32)).toUInt32 &&& Int32.toUInt32 31)).toInt32) &&& (1431655765 : Int32))) &&& (858993459 : Int32)) + (((((a0 - ((((a0).toUInt32 >>> (((1 : Int32)).toUInt32 &&& Int32.toUInt32 31)).toInt32) &&& (1431655765 : Int32)))).toUInt32 >>> (((2 : Int32)).toUInt32 &&& Int32.toUInt32 31)).toInt32) &&& (858993459 : Int32))))]) S.1 S.2.1 dJ6_bitCount_0f7a4_23 rfl hl (by decide) rfl (fun ls hl => ?_)
  refine lv_iload_n S.1 S.2.1 dJ6_bitCount_0f7a4_24 rfl (lv_at hl 0 rfl) ?_
  refine lv_iload_n S.1 S.2.1 dJ6_bitCount_0f7a4_25 rfl (lv_at hl 0 rfl) ?_
  refine lv_iconst (v := 4) S.1 S.2.1 dJ6_bitCount_0f7a4_26 (by decide) ?_
  refine lv_iushr S.1 S.2.1 dJ6_bitCount_0f7a4_27 rfl ?_
  refine lv_iadd S.1 S.2.1 dJ6_bitCount_0f7a4_28 ?_
  refine lv_ldcw (v := 252645135) S.1 S.2.1 S.2.2.2.1 (S.2.2.2.2 _ w458) dJ6_bitCount_0f7a4_29 ?_
  refine lv_iand S.1 S.2.1 dJ6_bitCount_0f7a4_32 ?_
  refine lv_istore_n (lv' := [(0, .int (((((a0 - ((((a0).toUInt32 >>> (((1 : Int32)).toUInt32 &&& Int32.toUInt32 31)).toInt32) &&& (1431655765 : Int32))) &&& (858993459 : Int32)) + (((((a0 - ((((a0).toUInt32 >>> (((1 : Int32)).toUInt32 &&& Int32.toUInt32 31)).toInt32) &&& (1431655765 : Int32)))).toUInt32 >>> (((2 : Int32)).toUInt32 &&& Int32.toUInt32 31)).toInt32) &&& (858993459 : Int32))) + ((((((a0 - ((((a0).toUInt32 >>> (((1 : Int32)).toUInt32 &&& Int32.toUInt32 31)).toInt32) &&& (1431655765 : Int32))) &&& (858993459 : Int32)) + (((((a0 - ((((a0).toUInt32 >>> (((1 : Int32)).toUInt32 &&& Int32.toUInt32 31)).toInt32) &&& (1431655765 : Int32)))).toUInt32 >>> (((2 : Int32)).toUInt32 &&& Int32.toUInt32 31)).toInt32) &&& (858993459 : Int32)))).toUInt32 >>> (((4 : Int32)).toUInt32 &&& Int32.toUInt32 31)).toInt32)) &&& (252645135 : Int32)))]) S.1 S.2.1 dJ6_bitCount_0f7a4_33 rfl hl (by decide) rfl (fun ls hl => ?_)
  refine lv_iload_n S.1 S.2.1 dJ6_bitCount_0f7a4_34 rfl (lv_at hl 0 rfl) ?_
  refine lv_iload_n S.1 S.2.1 dJ6_bitCount_0f7a4_35 rfl (lv_at hl 0 rfl) ?_
  refine lv_bipush (v := 8) S.1 S.2.1 dJ6_bitCount_0f7a4_36 (by decide) ?_
  refine lv_iushr S.1 S.2.1 dJ6_bitCount_0f7a4_38 rfl ?_
  refine lv_iadd S.1 S.2.1 dJ6_bitCount_0f7a4_39 ?_
  refine lv_istore_n (lv' := [(0, .int ((((((a0 - ((((a0).toUInt32 >>> (((1 : Int32)).toUInt32 &&& Int32.toUInt32 31)).toInt32) &&& (1431655765 : Int32))) &&& (858993459 : Int32)) + (((((a0 - ((((a0).toUInt32 >>> (((1 : Int32)).toUInt32 &&& Int32.toUInt32 31)).toInt32) &&& (1431655765 : Int32)))).toUInt32 >>> (((2 : Int32)).toUInt32 &&& Int32.toUInt32 31)).toInt32) &&& (858993459 : Int32))) + ((((((a0 - ((((a0).toUInt32 >>> (((1 : Int32)).toUInt32 &&& Int32.toUInt32 31)).toInt32) &&& (1431655765 : Int32))) &&& (858993459 : Int32)) + (((((a0 - ((((a0).toUInt32 >>> (((1 : Int32)).toUInt32 &&& Int32.toUInt32 31)).toInt32) &&& (1431655765 : Int32)))).toUInt32 >>> (((2 : Int32)).toUInt32 &&& Int32.toUInt32 31)).toInt32) &&& (858993459 : Int32)))).toUInt32 >>> (((4 : Int32)).toUInt32 &&& Int32.toUInt32 31)).toInt32)) &&& (252645135 : Int32)) + ((((((((a0 - ((((a0).toUInt32 >>> (((1 : Int32)).toUInt32 &&& Int32.toUInt32 31)).toInt32) &&& (1431655765 : Int32))) &&& (858993459 : Int32)) + (((((a0 - ((((a0).toUInt32 >>> (((1 : Int32)).toUInt32 &&& Int32.toUInt32 31)).toInt32) &&& (1431655765 : Int32)))).toUInt32 >>> (((2 : Int32)).toUInt32 &&& Int32.toUInt32 31)).toInt32) &&& (858993459 : Int32))) + ((((((a0 - ((((a0).toUInt32 >>> (((1 : Int32)).toUInt32 &&& Int32.toUInt32 31)).toInt32) &&& (1431655765 : Int32))) &&& (858993459 : Int32)) + (((((a0 - ((((a0).toUInt32 >>> (((1 : Int32)).toUInt32 &&& Int32.toUInt32 31)).toInt32) &&& (1431655765 : Int32)))).toUInt32 >>> (((2 : Int32)).toUInt32 &&& Int32.toUInt32 31)).toInt32) &&& (858993459 : Int32)))).toUInt32 >>> (((4 : Int32)).toUInt32 &&& Int32.toUInt32 31)).toInt32)) &&& (252645135 : Int32))).toUInt32 >>> (((8 : Int32)).toUInt32 &&& Int32.toUInt32 31)).toInt32)))]) S.1 S.2.1 dJ6_bitCount_0f7a4_40 rfl hl (by decide) rfl (fun ls hl => ?_)
  refine lv_iload_n S.1 S.2.1 dJ6_bitCount_0f7a4_41 rfl (lv_at hl 0 rfl) ?_
  refine lv_iload_n S.1 S.2.1 dJ6_bitCount_0f7a4_42 rfl (lv_at hl 0 rfl) ?_
  refine lv_bipush (v := 16) S.1 S.2.1 dJ6_bitCount_0f7a4_43 (by decide) ?_
  refine lv_iushr S.1 S.2.1 dJ6_bitCount_0f7a4_45 rfl ?_
  refine lv_iadd S.1 S.2.1 dJ6_bitCount_0f7a4_46 ?_
  refine lv_istore_n (lv' := [(0, .int (((((((a0 - ((((a0).toUInt32 >>> (((1 : Int32)).toUInt32 &&& Int32.toUInt32 31)).toInt32) &&& (1431655765 : Int32))) &&& (858993459 : Int32)) + (((((a0 - ((((a0).toUInt32 >>> (((1 : Int32)).toUInt32 &&& Int32.toUInt32 31)).toInt32) &&& (1431655765 : Int32)))).toUInt32 >>> (((2 : Int32)).toUInt32 &&& Int32.toUInt32 31)).toInt32) &&& (858993459 : Int32))) + ((((((a0 - ((((a0).toUInt32 >>> (((1 : Int32)).toUInt32 &&& Int32.toUInt32 31)).toInt32) &&& (1431655765 : Int32))) &&& (858993459 : Int32)) + (((((a0 - ((((a0).toUInt32 >>> (((1 : Int32)).toUInt32 &&& Int32.toUInt32 31)).toInt32) &&& (1431655765 : Int32)))).toUInt32 >>> (((2 : Int32)).toUInt32 &&& Int32.toUInt32 31)).toInt32) &&& (858993459 : Int32)))).toUInt32 >>> (((4 : Int32)).toUInt32 &&& Int32.toUInt32 31)).toInt32)) &&& (252645135 : Int32)) + ((((((((a0 - ((((a0).toUInt32 >>> (((1 : Int32)).toUInt32 &&& Int32.toUInt32 31)).toInt32) &&& (1431655765 : Int32))) &&& (858993459 : Int32)) + (((((a0 - ((((a0).toUInt32 >>> (((1 : Int32)).toUInt32 &&& Int32.toUInt32 31)).toInt32) &&& (1431655765 : Int32)))).toUInt32 >>> (((2 : Int32)).toUInt32 &&& Int32.toUInt32 31)).toInt32) &&& (858993459 : Int32))) + ((((((a0 - ((((a0).toUInt32 >>> (((1 : Int32)).toUInt32 &&& Int32.toUInt32 31)).toInt32) &&& (1431655765 : Int32))) &&& (858993459 : Int32)) + (((((a0 - ((((a0).toUInt32 >>> (((1 : Int32)).toUInt32 &&& Int32.toUInt32 31)).toInt32) &&& (1431655765 : Int32)))).toUInt32 >>> (((2 : Int32)).toUInt32 &&& Int32.toUInt32 31)).toInt32) &&& (858993459 : Int32)))).toUInt32 >>> (((4 : Int32)).toUInt32 &&& Int32.toUInt32 31)).toInt32)) &&& (252645135 : Int32))).toUInt32 >>> (((8 : Int32)).toUInt32 &&& Int32.toUInt32 31)).toInt32)) + (((((((((a0 - ((((a0).toUInt32 >>> (((1 : Int32)).toUInt32 &&& Int32.toUInt32 31)).toInt32) &&& (1431655765 : Int32))) &&& (858993459 : Int32)) + (((((a0 - ((((a0).toUInt32 >>> (((1 : Int32)).toUInt32 &&& Int32.toUInt32 31)).toInt32) &&& (1431655765 : Int32)))).toUInt32 >>> (((2 : Int32)).toUInt32 &&& Int32.toUInt32 31)).toInt32) &&& (858993459 : Int32))) + ((((((a0 - ((((a0).toUInt32 >>> (((1 : Int32)).toUInt32 &&& Int32.toUInt32 31)).toInt32) &&& (1431655765 : Int32))) &&& (858993459 : Int32)) + (((((a0 - ((((a0).toUInt32 >>> (((1 : Int32)).toUInt32 &&& Int32.toUInt32 31)).toInt32) &&& (1431655765 : Int32)))).toUInt32 >>> (((2 : Int32)).toUInt32 &&& Int32.toUInt32 31)).toInt32) &&& (858993459 : Int32)))).toUInt32 >>> (((4 : Int32)).toUInt32 &&& Int32.toUInt32 31)).toInt32)) &&& (252645135 : Int32)) + ((((((((a0 - ((((a0).toUInt32 >>> (((1 : Int32)).toUInt32 &&& Int32.toUInt32 31)).toInt32) &&& (1431655765 : Int32))) &&& (858993459 : Int32)) + (((((a0 - ((((a0).toUInt32 >>> (((1 : Int32)).toUInt32 &&& Int32.toUInt32 31)).toInt32) &&& (1431655765 : Int32)))).toUInt32 >>> (((2 : Int32)).toUInt32 &&& Int32.toUInt32 31)).toInt32) &&& (858993459 : Int32))) + ((((((a0 - ((((a0).toUInt32 >>> (((1 : Int32)).toUInt32 &&& Int32.toUInt32 31)).toInt32) &&& (1431655765 : Int32))) &&& (858993459 : Int32)) + (((((a0 - ((((a0).toUInt32 >>> (((1 : Int32)).toUInt32 &&& Int32.toUInt32 31)).toInt32) &&& (1431655765 : Int32)))).toUInt32 >>> (((2 : Int32)).toUInt32 &&& Int32.toUInt32 31)).toInt32) &&& (858993459 : Int32)))).toUInt32 >>> (((4 : Int32)).toUInt32 &&& Int32.toUInt32 31)).toInt32)) &&& (252645135 : Int32))).toUInt32 >>> (((8 : Int32)).toUInt32 &&& Int32.toUInt32 31)).toInt32))).toUInt32 >>> (((16 : Int32)).toUInt32 &&& Int32.toUInt32 31)).toInt32)))]) S.1 S.2.1 dJ6_bitCount_0f7a4_47 rfl hl (by decide) rfl (fun ls hl => ?_)
  refine lv_iload_n S.1 S.2.1 dJ6_bitCount_0f7a4_48 rfl (lv_at hl 0 rfl) ?_
  refine lv_bipush (v := 63) S.1 S.2.1 dJ6_bitCount_0f7a4_49 (by decide) ?_
  refine lv_iand S.1 S.2.1 dJ6_bitCount_0f7a4_51 ?_
  exact z_reti S w hr hlk dJ6_bitCount_0f7a4_52 trivial (by rw [← h])
set_option maxHeartbeats 4000000 in
set_option maxRecDepth 100000 in
theorem c_X10_bit (l : Launch) (D : va_G) (cs : Nat → ClassId) (ad : Nat → Nat) (F : ZF) (A : ZA) (T : Int64) (a0 a1 : Int32) (q : Int32) (h : f_X10_bit a0 a1 = q) : zMi l D cs (XWc cs ad 10 11) yX10_bit cX10_bit 2 (some .int) rm_X10_bit ([.int a0, .int a1] : List Value) F A T ((q, F, A, T) : Int32 × ZS) True := by
  refine z_enteri (by decide) (Nat.le_of_ble_eq_true rfl) ?_
  intro p e s m below meth c A0 ls S K w hA hr hlk hl
  have S : CallFix p m c cX10_bit 2 s ([.int a0, .int a1] : List Value).toArray zWs RX10 := S
  have hl : lv_has ls 2 [(0, .int a0), (1, .int a1)] := hl
  unfold f_X10_bit at h
  refine lv_iload_n S.1 S.2.1 dX10_bit_0 rfl (lv_at hl 0 rfl) ?_
  refine lv_iload_n S.1 S.2.1 dX10_bit_1 rfl (lv_at hl 1 rfl) ?_
  refine lv_ishr S.1 S.2.1 dX10_bit_2 ?_
  refine lv_iconst (v := 1) S.1 S.2.1 dX10_bit_3 (by decide) ?_
  refine lv_iand S.1 S.2.1 dX10_bit_4 ?_
  exact z_reti S w hr hlk dX10_bit_5 trivial (by rw [← h])
set_option maxHeartbeats 4000000 in
set_option maxRecDepth 100000 in
theorem c_X5_countHours (l : Launch) (D : va_G) (cs : Nat → ClassId) (ad : Nat → Nat) (F : ZF) (A : ZA) (T : Int64) (a0 : Int32) (q : ZS) (h : f_X5_countHours a0 F A T = some q) : zMv l D cs (XWc cs ad 10 11) yX5_countHours cX5_countHours 7 none rm_X5_countHours ([.ref (ad 2), .ref (ad 10), .int a0] : List Value) F A T q := by
  refine z_enterv (by decide) (Nat.le_of_ble_eq_true rfl) ?_
  intro p e s m below meth c A0 ls S K w hA hr hlk hl
  have S : CallFix p m c cX5_countHours 7 s ([.ref (ad 2), .ref (ad 10), .int a0] : List Value).toArray zWs RX5 := S
  have hl : lv_has ls 7 [(0, .ref (ad 2)), (1, .ref (ad 10)), (2, .int a0)] := hl
  unfold f_X5_countHours at h
  have j23 : ∀ (n23 : Nat) (x2 x3 x4 : Int32) (F : ZF) (A : ZA) (T : Int64), f_X5_countHours_23 n23 x2 x3 x4 F A T = some q → ∀ (H : Heap) (locs : List Loc) (ls : Array Slot), lv_has ls 7 [(0, .ref (ad 2)), (1, .ref (ad 10)), (2, .int x2), (3, .int x3), (4, .int x4)] → ZW D A0 s.heap (XWc cs ad 10 11 F A T) H locs → W p l e rm_X5_countHours s m ([.ref (ad 2), .ref (ad 10), .int a0] : List Value).toArray below meth c H locs 0 0 (zQv (XWc cs ad 10 11) D A0 below ([.ref (ad 2), .ref (ad 10), .int a0] : List Value) s q) (F0 m 23 ls []) := by
    intro n23
    induction n23 with
    | zero =>
      intro x2 x3 x4 F A T h H locs ls hl w
      have h : (none : Option ZS) = some q := h
      cases h
    | succ n23 ih23 =>
      intro x2 x3 x4 F A T h H locs ls hl w
      rw [f_X5_countHours_23_s] at h
      have j38 : ∀ (n38 : Nat) (x2 x3 x4 x5 x6 : Int32) (F : ZF) (A : ZA) (T : Int64), f_X5_countHours_38 (f_X5_countHours_23 n23) n38 x2 x3 x4 x5 x6 F A T = some q → ∀ (H : Heap) (locs : List Loc) (ls : Array Slot), lv_has ls 7 [(0, .ref (ad 2)), (1, .ref (ad 10)), (2, .int x2), (3, .int x3), (4, .int x4), (5, .int x5), (6, .int x6)] → ZW D A0 s.heap (XWc cs ad 10 11 F A T) H locs → W p l e rm_X5_countHours s m ([.ref (ad 2), .ref (ad 10), .int a0] : List Value).toArray below meth c H locs 0 0 (zQv (XWc cs ad 10 11) D A0 below ([.ref (ad 2), .ref (ad 10), .int a0] : List Value) s q) (F0 m 38 ls []) := by
        intro n38
        induction n38 with
        | zero =>
          intro x2 x3 x4 x5 x6 F A T h H locs ls hl w
          have h : (none : Option ZS) = some q := h
          cases h
        | succ n38 ih38 =>
          intro x2 x3 x4 x5 x6 F A T h H locs ls hl w
          rw [f_X5_countHours_38_s] at h
          refine lv_iload S.1 S.2.1 dX5_countHours_38 (lv_at hl 6 rfl) ?_
          refine lv_aload_n S.1 S.2.1 dX5_countHours_40 rfl (lv_at hl 1 rfl) ?_
          refine gX_10_2 S K w w234 dX5_countHours_41 ?_
          refine lv_icmp_ge (tgt := 97) S.1 S.2.1 dX5_countHours_44 (by decide) (fun c2 => ?_) (fun c2 => ?_)
          · have h := og_t c2 h
            refine lv_aload_n S.1 S.2.1 dX5_countHours_97 rfl (lv_at hl 0 rfl) ?_
            refine gX_2_2 S K w w127 dX5_countHours_98 ?_
            refine lv_iload S.1 S.2.1 dX5_countHours_101 (lv_at hl 4 rfl) ?_
            refine lv_iload S.1 S.2.1 dX5_countHours_103 (lv_at hl 5 rfl) ?_
            refine lv_iload_n S.1 S.2.1 dX5_countHours_105 rfl (lv_at hl 3 rfl) ?_
            refine lv_iand S.1 S.2.1 dX5_countHours_106 ?_
            refine z_callSr S K w hA (c_J6_bitCount_0f7a4 l D cs ad F A T (x5 &&& x3) (f_J6_bitCount_0f7a4 (x5 &&& x3)) rfl) (cw_X5_56 S.2.2.2.2 ⟨Nat.le_of_ble_eq_true rfl, Nat.le_of_ble_eq_true rfl⟩) rfl hl.1 rfl (Nat.le_of_ble_eq_true rfl) ⟨Nat.zero_le _, Nat.zero_le _⟩ dX5_countHours_107 (fun b3 H locs w => ?_)
            obtain ⟨g4, h⟩ := og_g h
            refine sX_16 S K w g4 dX5_countHours_110 (fun H locs w => ?_)
            refine lv_iinc (v := (x4 + (1 : Int32))) (lv' := [(4, .int (x4 + (1 : Int32))), (0, .ref (ad 2)), (1, .ref (ad 10)), (2, .int x2), (3, .int x3), (5, .int x5), (6, .int x6)]) S.1 S.2.1 dX5_countHours_111 hl (k := 4) rfl rfl (by decide) rfl (fun ls hl => ?_)
            refine lv_goto (tgt := 23) S.1 S.2.1 dX5_countHours_114 (by decide) ?_
            exact ih23 _ _ _ _ _ _ h _ _ _ (lv_sub hl [1, 2, 3, 4, 0] rfl) w
          · have h := og_f c2 h
            refine lv_iload_n S.1 S.2.1 dX5_countHours_47 rfl (lv_at hl 2 rfl) ?_
            refine lv_iload S.1 S.2.1 dX5_countHours_48 (lv_at hl 6 rfl) ?_
            refine z_callNr S K w hA (c_X10_bit l D cs ad F A T x2 x6 (f_X10_bit x2 x6) rfl) (cw_X5_44 S.2.2.2.2 K.2 ⟨Nat.le_of_ble_eq_true rfl, Nat.le_of_ble_eq_true rfl⟩) rfl hl.1 rfl (Nat.le_of_ble_eq_true rfl) ⟨Nat.zero_le _, Nat.zero_le _⟩ dX5_countHours_50 (fun b5 H locs w => ?_)
            refine lv_iconst (v := 1) S.1 S.2.1 dX5_countHours_53 (by decide) ?_
            refine lv_icmp_ne (tgt := 91) S.1 S.2.1 dX5_countHours_54 (by decide) (fun c6 => ?_) (fun c6 => ?_)
            · have h := og_f c6 h
              refine lv_iinc (v := (x6 + (1 : Int32))) (lv' := [(6, .int (x6 + (1 : Int32))), (0, .ref (ad 2)), (1, .ref (ad 10)), (2, .int x2), (3, .int x3), (4, .int x4), (5, .int x5)]) S.1 S.2.1 dX5_countHours_91 hl (k := 6) rfl rfl (by decide) rfl (fun ls hl => ?_)
              refine lv_goto (tgt := 38) S.1 S.2.1 dX5_countHours_94 (by decide) ?_
              exact ih38 _ _ _ _ _ _ _ _ h _ _ _ (lv_sub hl [1, 2, 3, 4, 5, 6, 0] rfl) w
            · have h := og_t c6 h
              refine lv_aload_n S.1 S.2.1 dX5_countHours_57 rfl (lv_at hl 1 rfl) ?_
              refine gX_10_11 S K w w262 dX5_countHours_58 ?_
              refine lv_iload S.1 S.2.1 dX5_countHours_61 (lv_at hl 6 rfl) ?_
              obtain ⟨g7, h⟩ := og_g h
              refine aX_34 S K w g7 dX5_countHours_63 ?_
              refine lv_iload S.1 S.2.1 dX5_countHours_64 (lv_at hl 4 rfl) ?_
              refine lv_icmp_ne (tgt := 91) S.1 S.2.1 dX5_countHours_66 (by decide) (fun c8 => ?_) (fun c8 => ?_)
              · have h := og_f c8 h
                refine lv_iinc (v := (x6 + (1 : Int32))) (lv' := [(6, .int (x6 + (1 : Int32))), (0, .ref (ad 2)), (1, .ref (ad 10)), (2, .int x2), (3, .int x3), (4, .int x4), (5, .int x5)]) S.1 S.2.1 dX5_countHours_91 hl (k := 6) rfl rfl (by decide) rfl (fun ls hl => ?_)
                refine lv_goto (tgt := 38) S.1 S.2.1 dX5_countHours_94 (by decide) ?_
                exact ih38 _ _ _ _ _ _ _ _ h _ _ _ (lv_sub hl [1, 2, 3, 4, 5, 6, 0] rfl) w
              · have h := og_t c8 h
                refine lv_iload S.1 S.2.1 dX5_countHours_69 (lv_at hl 5 rfl) ?_
                refine lv_aload_n S.1 S.2.1 dX5_countHours_71 rfl (lv_at hl 1 rfl) ?_
                refine gX_10_13 S K w w267 dX5_countHours_72 ?_
                refine lv_iload S.1 S.2.1 dX5_countHours_75 (lv_at hl 6 rfl) ?_
                obtain ⟨g9, h⟩ := og_g h
                refine aX_36 S K w g9 dX5_countHours_77 ?_
                refine lv_aload_n S.1 S.2.1 dX5_countHours_78 rfl (lv_at hl 1 rfl) ?_
                refine gX_10_14 S K w w270 dX5_countHours_79 ?_
                refine lv_iload S.1 S.2.1 dX5_countHours_82 (lv_at hl 6 rfl) ?_
                obtain ⟨g10, h⟩ := og_g h
                refine aX_37 S K w g10 dX5_countHours_84 ?_
                refine z_callSr S K w hA (c_X5_hoursFromTo l D cs ad F A T (A 36 (x6).toNatClampNeg) (A 37 (x6).toNatClampNeg) (f_X5_hoursFromTo (A 36 (x6).toNatClampNeg) (A 37 (x6).toNatClampNeg)) rfl) (cw_X5_37 S.2.2.2.2 ⟨Nat.le_of_ble_eq_true rfl, Nat.le_of_ble_eq_true rfl⟩) rfl hl.1 rfl (Nat.le_of_ble_eq_true rfl) ⟨Nat.zero_le _, Nat.zero_le _⟩ dX5_countHours_85 (fun b11 H locs w => ?_)
                refine lv_ior S.1 S.2.1 dX5_countHours_88 ?_
                refine lv_istore (lv' := [(5, .int (x5 ||| (f_X5_hoursFromTo (A 36 (x6).toNatClampNeg) (A 37 (x6).toNatClampNeg)))), (0, .ref (ad 2)), (1, .ref (ad 10)), (2, .int x2), (3, .int x3), (4, .int x4), (6, .int x6)]) S.1 S.2.1 dX5_countHours_89 hl (by decide) rfl (fun ls hl => ?_)
                refine lv_iinc (v := (x6 + (1 : Int32))) (lv' := [(6, .int (x6 + (1 : Int32))), (5, .int (x5 ||| (f_X5_hoursFromTo (A 36 (x6).toNatClampNeg) (A 37 (x6).toNatClampNeg)))), (0, .ref (ad 2)), (1, .ref (ad 10)), (2, .int x2), (3, .int x3), (4, .int x4)]) S.1 S.2.1 dX5_countHours_91 hl (k := 6) rfl rfl (by decide) rfl (fun ls hl => ?_)
                refine lv_goto (tgt := 38) S.1 S.2.1 dX5_countHours_94 (by decide) ?_
                exact ih38 _ _ _ _ _ _ _ _ h _ _ _ (lv_sub hl [2, 3, 4, 5, 6, 1, 0] rfl) w
      refine lv_iload S.1 S.2.1 dX5_countHours_23 (lv_at hl 4 rfl) ?_
      refine lv_aload_n S.1 S.2.1 dX5_countHours_25 rfl (lv_at hl 0 rfl) ?_
      refine gX_2_5 S K w w132 dX5_countHours_26 ?_
      refine lv_icmp_ge (tgt := 117) S.1 S.2.1 dX5_countHours_29 (by decide) (fun c1 => ?_) (fun c1 => ?_)
      · have h := og_t c1 h
        exact z_retv S w hr hlk dX5_countHours_117 (Option.some.inj h).symm
      · have h := og_f c1 h
        refine lv_iconst (v := 0) S.1 S.2.1 dX5_countHours_32 (by decide) ?_
        refine lv_istore (lv' := [(5, .int (0 : Int32)), (0, .ref (ad 2)), (1, .ref (ad 10)), (2, .int x2), (3, .int x3), (4, .int x4)]) S.1 S.2.1 dX5_countHours_33 hl (by decide) rfl (fun ls hl => ?_)
        refine lv_iconst (v := 0) S.1 S.2.1 dX5_countHours_35 (by decide) ?_
        refine lv_istore (lv' := [(6, .int (0 : Int32)), (5, .int (0 : Int32)), (0, .ref (ad 2)), (1, .ref (ad 10)), (2, .int x2), (3, .int x3), (4, .int x4)]) S.1 S.2.1 dX5_countHours_36 hl (by decide) rfl (fun ls hl => ?_)
        exact j38 1000 _ _ _ _ _ _ _ _ h _ _ _ (lv_sub hl [2, 3, 4, 5, 6, 1, 0] rfl) w
  refine lv_aload_n S.1 S.2.1 dX5_countHours_0 rfl (lv_at hl 0 rfl) ?_
  refine lv_aload_n S.1 S.2.1 dX5_countHours_1 rfl (lv_at hl 1 rfl) ?_
  refine gX_10_0 S K w w225 dX5_countHours_2 ?_
  refine pX_2_5 S K w w132 dX5_countHours_5 (fun H locs w => ?_)
  refine lv_aload_n S.1 S.2.1 dX5_countHours_8 rfl (lv_at hl 1 rfl) ?_
  refine gX_10_3 S K w w237 dX5_countHours_9 ?_
  refine lv_aload_n S.1 S.2.1 dX5_countHours_12 rfl (lv_at hl 1 rfl) ?_
  refine gX_10_4 S K w w241 dX5_countHours_13 ?_
  refine z_callSr S K w hA (c_X5_hoursFromTo l D cs ad (upd F 9 (F 22)) A T ((upd F 9 (F 22)) 25) ((upd F 9 (F 22)) 26) (f_X5_hoursFromTo ((upd F 9 (F 22)) 25) ((upd F 9 (F 22)) 26)) rfl) (cw_X5_37 S.2.2.2.2 ⟨Nat.le_of_ble_eq_true rfl, Nat.le_of_ble_eq_true rfl⟩) rfl hl.1 rfl (Nat.le_of_ble_eq_true rfl) ⟨Nat.zero_le _, Nat.zero_le _⟩ dX5_countHours_16 (fun b12 H locs w => ?_)
  refine lv_istore_n (lv' := [(3, .int (f_X5_hoursFromTo ((upd F 9 (F 22)) 25) ((upd F 9 (F 22)) 26))), (0, .ref (ad 2)), (1, .ref (ad 10)), (2, .int a0)]) S.1 S.2.1 dX5_countHours_19 rfl hl (by decide) rfl (fun ls hl => ?_)
  refine lv_iconst (v := 0) S.1 S.2.1 dX5_countHours_20 (by decide) ?_
  refine lv_istore (lv' := [(4, .int (0 : Int32)), (3, .int (f_X5_hoursFromTo ((upd F 9 (F 22)) 25) ((upd F 9 (F 22)) 26))), (0, .ref (ad 2)), (1, .ref (ad 10)), (2, .int a0)]) S.1 S.2.1 dX5_countHours_21 hl (by decide) rfl (fun ls hl => ?_)
  exact j23 1000 _ _ _ _ _ _ h _ _ _ (lv_sub hl [2, 3, 4, 1, 0] rfl) w
set_option maxHeartbeats 4000000 in
set_option maxRecDepth 100000 in
theorem c_X5_heldBy (l : Launch) (D : va_G) (cs : Nat → ClassId) (ad : Nat → Nat) (F : ZF) (A : ZA) (T : Int64) (a0 a1 : Int32) (q : Int32) (h : f_X5_heldBy a0 a1 F A T = some q) : zMi l D cs (XWc cs ad 10 11) yX5_heldBy cX5_heldBy 6 (some .int) rm_X5_heldBy ([.ref (ad 2), .ref (ad 10), .int a0, .int a1] : List Value) F A T ((q, F, A, T) : Int32 × ZS) True := by
  refine z_enteri (by decide) (Nat.le_of_ble_eq_true rfl) ?_
  intro p e s m below meth c A0 ls S K w hA hr hlk hl
  have S : CallFix p m c cX5_heldBy 6 s ([.ref (ad 2), .ref (ad 10), .int a0, .int a1] : List Value).toArray zWs RX5 := S
  have hl : lv_has ls 6 [(0, .ref (ad 2)), (1, .ref (ad 10)), (2, .int a0), (3, .int a1)] := hl
  unfold f_X5_heldBy at h
  have j11 : ∀ (n11 : Nat) (x2 x3 x4 x5 : Int32), f_X5_heldBy_11 F A T n11 x2 x3 x4 x5 = some q → ∀ (H : Heap) (locs : List Loc) (ls : Array Slot), lv_has ls 6 [(0, .ref (ad 2)), (1, .ref (ad 10)), (2, .int x2), (3, .int x3), (4, .int x4), (5, .int x5)] → ZW D A0 s.heap (XWc cs ad 10 11 F A T) H locs → W p l e rm_X5_heldBy s m ([.ref (ad 2), .ref (ad 10), .int a0, .int a1] : List Value).toArray below meth c H locs 0 0 (zQi (XWc cs ad 10 11) D A0 below ([.ref (ad 2), .ref (ad 10), .int a0, .int a1] : List Value) s ((q, F, A, T) : Int32 × ZS) True) (F0 m 11 ls []) := by
    intro n11
    induction n11 with
    | zero =>
      intro x2 x3 x4 x5 h H locs ls hl w
      have h : (none : Option Int32) = some q := h
      cases h
    | succ n11 ih11 =>
      intro x2 x3 x4 x5 h H locs ls hl w
      rw [f_X5_heldBy_11_s] at h
      refine lv_iload S.1 S.2.1 dX5_heldBy_11 (lv_at hl 5 rfl) ?_
      refine lv_aload_n S.1 S.2.1 dX5_heldBy_13 rfl (lv_at hl 1 rfl) ?_
      refine gX_10_1 S K w w230 dX5_heldBy_14 ?_
      refine lv_icmp_ge (tgt := 53) S.1 S.2.1 dX5_heldBy_17 (by decide) (fun c1 => ?_) (fun c1 => ?_)
      · have h := og_t c1 h
        refine lv_iconst (v := 0) S.1 S.2.1 dX5_heldBy_53 (by decide) ?_
        refine lv_iconst (v := 0) S.1 S.2.1 dX5_heldBy_54 (by decide) ?_
        refine lv_iload S.1 S.2.1 dX5_heldBy_55 (lv_at hl 4 rfl) ?_
        refine va_mmax S.1 S.2.1 (S.2.2.1.trans hl.1.symm) S.2.2.2.1 (S.2.2.2.2 _ w467) (S.2.2.2.2 _ w468) (S.2.2.2.2 _ w68) (S.2.2.2.2 _ w469) (Nat.le_of_ble_eq_true rfl) (Nat.le_of_ble_eq_true rfl) (Nat.zero_le _) (Nat.zero_le _) dX5_heldBy_57 ?_
        refine lv_aload_n S.1 S.2.1 dX5_heldBy_60 rfl (lv_at hl 0 rfl) ?_
        refine gX_2_2 S K w w127 dX5_heldBy_61 ?_
        refine lv_iload_n S.1 S.2.1 dX5_heldBy_64 rfl (lv_at hl 3 rfl) ?_
        obtain ⟨g2, h⟩ := og_g h
        refine aX_16 S K w g2 dX5_heldBy_65 ?_
        refine lv_isub S.1 S.2.1 dX5_heldBy_66 ?_
        refine va_mmax S.1 S.2.1 (S.2.2.1.trans hl.1.symm) S.2.2.2.1 (S.2.2.2.2 _ w467) (S.2.2.2.2 _ w468) (S.2.2.2.2 _ w68) (S.2.2.2.2 _ w469) (Nat.le_of_ble_eq_true rfl) (Nat.le_of_ble_eq_true rfl) (Nat.zero_le _) (Nat.zero_le _) dX5_heldBy_67 ?_
        exact z_reti S w hr hlk dX5_heldBy_70 trivial (by rw [← Option.some.inj h])
      · have h := og_f c1 h
        refine lv_iload_n S.1 S.2.1 dX5_heldBy_20 rfl (lv_at hl 2 rfl) ?_
        refine lv_iload S.1 S.2.1 dX5_heldBy_21 (lv_at hl 5 rfl) ?_
        refine z_callNr S K w hA (c_X10_bit l D cs ad F A T x2 x5 (f_X10_bit x2 x5) rfl) (cw_X5_44 S.2.2.2.2 K.2 ⟨Nat.le_of_ble_eq_true rfl, Nat.le_of_ble_eq_true rfl⟩) rfl hl.1 rfl (Nat.le_of_ble_eq_true rfl) ⟨Nat.zero_le _, Nat.zero_le _⟩ dX5_heldBy_23 (fun b3 H locs w => ?_)
        refine lv_iconst (v := 1) S.1 S.2.1 dX5_heldBy_26 (by decide) ?_
        refine lv_icmp_ne (tgt := 47) S.1 S.2.1 dX5_heldBy_27 (by decide) (fun c4 => ?_) (fun c4 => ?_)
        · have h := og_f c4 h
          refine lv_iinc (v := (x5 + (1 : Int32))) (lv' := [(5, .int (x5 + (1 : Int32))), (0, .ref (ad 2)), (1, .ref (ad 10)), (2, .int x2), (3, .int x3), (4, .int x4)]) S.1 S.2.1 dX5_heldBy_47 hl (k := 5) rfl rfl (by decide) rfl (fun ls hl => ?_)
          refine lv_goto (tgt := 11) S.1 S.2.1 dX5_heldBy_50 (by decide) ?_
          exact ih11 _ _ _ _ h _ _ _ (lv_sub hl [1, 2, 3, 4, 5, 0] rfl) w
        · have h := og_t c4 h
          refine lv_iload S.1 S.2.1 dX5_heldBy_30 (lv_at hl 4 rfl) ?_
          refine lv_aload_n S.1 S.2.1 dX5_heldBy_32 rfl (lv_at hl 1 rfl) ?_
          refine gX_10_10 S K w w259 dX5_heldBy_33 ?_
          refine lv_iload S.1 S.2.1 dX5_heldBy_36 (lv_at hl 5 rfl) ?_
          refine lv_bipush (v := 6) S.1 S.2.1 dX5_heldBy_38 (by decide) ?_
          refine lv_imul S.1 S.2.1 dX5_heldBy_40 ?_
          refine lv_iload_n S.1 S.2.1 dX5_heldBy_41 rfl (lv_at hl 3 rfl) ?_
          refine lv_iadd S.1 S.2.1 dX5_heldBy_42 ?_
          obtain ⟨g5, h⟩ := og_g h
          refine aX_33 S K w g5 dX5_heldBy_43 ?_
          refine lv_iadd S.1 S.2.1 dX5_heldBy_44 ?_
          refine lv_istore (lv' := [(4, .int (x4 + (A 33 (((x5 * (6 : Int32)) + x3)).toNatClampNeg))), (0, .ref (ad 2)), (1, .ref (ad 10)), (2, .int x2), (3, .int x3), (5, .int x5)]) S.1 S.2.1 dX5_heldBy_45 hl (by decide) rfl (fun ls hl => ?_)
          refine lv_iinc (v := (x5 + (1 : Int32))) (lv' := [(5, .int (x5 + (1 : Int32))), (4, .int (x4 + (A 33 (((x5 * (6 : Int32)) + x3)).toNatClampNeg))), (0, .ref (ad 2)), (1, .ref (ad 10)), (2, .int x2), (3, .int x3)]) S.1 S.2.1 dX5_heldBy_47 hl (k := 5) rfl rfl (by decide) rfl (fun ls hl => ?_)
          refine lv_goto (tgt := 11) S.1 S.2.1 dX5_heldBy_50 (by decide) ?_
          exact ih11 _ _ _ _ h _ _ _ (lv_sub hl [2, 3, 4, 5, 1, 0] rfl) w
  refine lv_aload_n S.1 S.2.1 dX5_heldBy_0 rfl (lv_at hl 1 rfl) ?_
  refine gX_10_6 S K w w250 dX5_heldBy_1 ?_
  refine lv_iload_n S.1 S.2.1 dX5_heldBy_4 rfl (lv_at hl 3 rfl) ?_
  obtain ⟨g6, h⟩ := og_g h
  refine aX_29 S K w g6 dX5_heldBy_5 ?_
  refine lv_istore (lv' := [(4, .int (A 29 (a1).toNatClampNeg)), (0, .ref (ad 2)), (1, .ref (ad 10)), (2, .int a0), (3, .int a1)]) S.1 S.2.1 dX5_heldBy_6 hl (by decide) rfl (fun ls hl => ?_)
  refine lv_iconst (v := 0) S.1 S.2.1 dX5_heldBy_8 (by decide) ?_
  refine lv_istore (lv' := [(5, .int (0 : Int32)), (4, .int (A 29 (a1).toNatClampNeg)), (0, .ref (ad 2)), (1, .ref (ad 10)), (2, .int a0), (3, .int a1)]) S.1 S.2.1 dX5_heldBy_9 hl (by decide) rfl (fun ls hl => ?_)
  exact j11 1000 _ _ _ _ h _ _ _ (lv_sub hl [2, 3, 4, 5, 1, 0] rfl) w
set_option maxHeartbeats 4000000 in
set_option maxRecDepth 100000 in
theorem c_X5_weigh (l : Launch) (D : va_G) (cs : Nat → ClassId) (ad : Nat → Nat) (F : ZF) (A : ZA) (T : Int64) (a0 : Int32) (q : ZS) (h : f_X5_weigh a0 F A T = some q) : zMv l D cs (XWc cs ad 10 11) yX5_weigh cX5_weigh 4 none rm_X5_weigh ([.ref (ad 2), .ref (ad 10), .int a0] : List Value) F A T q := by
  refine z_enterv (by decide) (Nat.le_of_ble_eq_true rfl) ?_
  intro p e s m below meth c A0 ls S K w hA hr hlk hl
  have S : CallFix p m c cX5_weigh 4 s ([.ref (ad 2), .ref (ad 10), .int a0] : List Value).toArray zWs RX5 := S
  have hl : lv_has ls 4 [(0, .ref (ad 2)), (1, .ref (ad 10)), (2, .int a0)] := hl
  unfold f_X5_weigh at h
  have j7 : ∀ (n7 : Nat) (x2 x3 : Int32) (F : ZF) (A : ZA) (T : Int64), f_X5_weigh_7 n7 x2 x3 F A T = some q → ∀ (H : Heap) (locs : List Loc) (ls : Array Slot), lv_has ls 4 [(0, .ref (ad 2)), (1, .ref (ad 10)), (2, .int x2), (3, .int x3)] → ZW D A0 s.heap (XWc cs ad 10 11 F A T) H locs → W p l e rm_X5_weigh s m ([.ref (ad 2), .ref (ad 10), .int a0] : List Value).toArray below meth c H locs 0 0 (zQv (XWc cs ad 10 11) D A0 below ([.ref (ad 2), .ref (ad 10), .int a0] : List Value) s q) (F0 m 7 ls []) := by
    intro n7
    induction n7 with
    | zero =>
      intro x2 x3 F A T h H locs ls hl w
      have h : (none : Option ZS) = some q := h
      cases h
    | succ n7 ih7 =>
      intro x2 x3 F A T h H locs ls hl w
      rw [f_X5_weigh_7_s] at h
      refine lv_iload_n S.1 S.2.1 dX5_weigh_7 rfl (lv_at hl 3 rfl) ?_
      refine lv_aload_n S.1 S.2.1 dX5_weigh_8 rfl (lv_at hl 0 rfl) ?_
      refine gX_2_5 S K w w132 dX5_weigh_9 ?_
      refine lv_icmp_ge (tgt := 49) S.1 S.2.1 dX5_weigh_12 (by decide) (fun c1 => ?_) (fun c1 => ?_)
      · have h := og_t c1 h
        exact z_retv S w hr hlk dX5_weigh_49 (Option.some.inj h).symm
      · have h := og_f c1 h
        refine lv_aload_n S.1 S.2.1 dX5_weigh_15 rfl (lv_at hl 0 rfl) ?_
        refine gX_2_0 S K w w122 dX5_weigh_16 ?_
        refine lv_iload_n S.1 S.2.1 dX5_weigh_19 rfl (lv_at hl 3 rfl) ?_
        refine lv_aload_n S.1 S.2.1 dX5_weigh_20 rfl (lv_at hl 0 rfl) ?_
        refine lv_aload_n S.1 S.2.1 dX5_weigh_21 rfl (lv_at hl 1 rfl) ?_
        refine lv_iload_n S.1 S.2.1 dX5_weigh_22 rfl (lv_at hl 2 rfl) ?_
        refine lv_iload_n S.1 S.2.1 dX5_weigh_23 rfl (lv_at hl 3 rfl) ?_
        obtain ⟨q3, e4, h⟩ := og_b h
        refine z_callVr S K w hA (c_X5_heldBy l D cs ad F A T x2 x3 q3 e4) (cw_X5_65 S.2.2.2.2 ⟨Nat.le_of_ble_eq_true rfl, Nat.le_of_ble_eq_true rfl⟩) (z_recv K w 2 5 rfl rfl) rfl hl.1 rfl (Nat.le_of_ble_eq_true rfl) ⟨Nat.zero_le _, Nat.zero_le _⟩ dX5_weigh_24 (fun b2 H locs w => ?_)
        obtain ⟨g5, h⟩ := og_g h
        refine sX_14 S K w g5 dX5_weigh_27 (fun H locs w => ?_)
        refine lv_aload_n S.1 S.2.1 dX5_weigh_28 rfl (lv_at hl 0 rfl) ?_
        refine lv_dup S.1 S.2.1 dX5_weigh_29 rfl ?_
        refine gX_2_3 S K w w129 dX5_weigh_30 ?_
        refine lv_aload_n S.1 S.2.1 dX5_weigh_33 rfl (lv_at hl 0 rfl) ?_
        refine gX_2_0 S K w w122 dX5_weigh_34 ?_
        refine lv_iload_n S.1 S.2.1 dX5_weigh_37 rfl (lv_at hl 3 rfl) ?_
        obtain ⟨g6, h⟩ := og_g h
        refine aX_14 S K w g6 dX5_weigh_38 ?_
        refine lv_iadd S.1 S.2.1 dX5_weigh_39 ?_
        refine pX_2_3 S K w w129 dX5_weigh_40 (fun H locs w => ?_)
        refine lv_iinc (v := (x3 + (1 : Int32))) (lv' := [(3, .int (x3 + (1 : Int32))), (0, .ref (ad 2)), (1, .ref (ad 10)), (2, .int x2)]) S.1 S.2.1 dX5_weigh_43 hl (k := 3) rfl rfl (by decide) rfl (fun ls hl => ?_)
        refine lv_goto (tgt := 7) S.1 S.2.1 dX5_weigh_46 (by decide) ?_
        exact ih7 _ _ _ _ _ h _ _ _ (lv_sub hl [1, 2, 3, 0] rfl) w
  refine lv_aload_n S.1 S.2.1 dX5_weigh_0 rfl (lv_at hl 0 rfl) ?_
  refine lv_iconst (v := 0) S.1 S.2.1 dX5_weigh_1 (by decide) ?_
  refine pX_2_3 S K w w129 dX5_weigh_2 (fun H locs w => ?_)
  refine lv_iconst (v := 0) S.1 S.2.1 dX5_weigh_5 (by decide) ?_
  refine lv_istore_n (lv' := [(3, .int (0 : Int32)), (0, .ref (ad 2)), (1, .ref (ad 10)), (2, .int a0)]) S.1 S.2.1 dX5_weigh_6 rfl hl (by decide) rfl (fun ls hl => ?_)
  exact j7 1000 _ _ _ _ _ h _ _ _ (lv_sub hl [1, 2, 3, 0] rfl) w
set_option maxHeartbeats 4000000 in
set_option maxRecDepth 100000 in
theorem c_X5_giveOneDayMore (l : Launch) (D : va_G) (cs : Nat → ClassId) (ad : Nat → Nat) (F : ZF) (A : ZA) (T : Int64) (q : ZS) (h : f_X5_giveOneDayMore F A T = some q) : zMv l D cs (XWc cs ad 10 11) yX5_giveOneDayMore cX5_giveOneDayMore 3 none rm_X5_giveOneDayMore ([.ref (ad 2)] : List Value) F A T q := by
  refine z_enterv (by decide) (Nat.le_of_ble_eq_true rfl) ?_
  intro p e s m below meth c A0 ls S K w hA hr hlk hl
  have S : CallFix p m c cX5_giveOneDayMore 3 s ([.ref (ad 2)] : List Value).toArray zWs RX5 := S
  have hl : lv_has ls 3 [(0, .ref (ad 2))] := hl
  unfold f_X5_giveOneDayMore at h
  have j4 : ∀ (n4 : Nat) (x1 x2 : Int32) (F : ZF) (A : ZA) (T : Int64), f_X5_giveOneDayMore_4 n4 x1 x2 F A T = some q → ∀ (H : Heap) (locs : List Loc) (ls : Array Slot), lv_has ls 3 [(0, .ref (ad 2)), (1, .int x1), (2, .int x2)] → ZW D A0 s.heap (XWc cs ad 10 11 F A T) H locs → W p l e rm_X5_giveOneDayMore s m ([.ref (ad 2)] : List Value).toArray below meth c H locs 0 0 (zQv (XWc cs ad 10 11) D A0 below ([.ref (ad 2)] : List Value) s q) (F0 m 4 ls []) := by
    intro n4
    induction n4 with
    | zero =>
      intro x1 x2 F A T h H locs ls hl w
      have h : (none : Option ZS) = some q := h
      cases h
    | succ n4 ih4 =>
      intro x1 x2 F A T h H locs ls hl w
      rw [f_X5_giveOneDayMore_4_s] at h
      refine lv_iload_n S.1 S.2.1 dX5_giveOneDayMore_4 rfl (lv_at hl 2 rfl) ?_
      refine lv_aload_n S.1 S.2.1 dX5_giveOneDayMore_5 rfl (lv_at hl 0 rfl) ?_
      refine gX_2_5 S K w w132 dX5_giveOneDayMore_6 ?_
      refine lv_icmp_ge (tgt := 35) S.1 S.2.1 dX5_giveOneDayMore_9 (by decide) (fun c1 => ?_) (fun c1 => ?_)
      · have h := og_t c1 h
        refine lv_aload_n S.1 S.2.1 dX5_giveOneDayMore_35 rfl (lv_at hl 0 rfl) ?_
        refine gX_2_1 S K w w125 dX5_giveOneDayMore_36 ?_
        refine lv_iload_n S.1 S.2.1 dX5_giveOneDayMore_39 rfl (lv_at hl 1 rfl) ?_
        refine lv_dup2_11 S.1 S.2.1 dX5_giveOneDayMore_40 rfl rfl ?_
        obtain ⟨g2, h⟩ := og_g h
        refine aX_15 S K w g2 dX5_giveOneDayMore_41 ?_
        refine lv_iconst (v := 1) S.1 S.2.1 dX5_giveOneDayMore_42 (by decide) ?_
        refine lv_iadd S.1 S.2.1 dX5_giveOneDayMore_43 ?_
        obtain ⟨g3, h⟩ := og_g h
        refine sX_15 S K w g3 dX5_giveOneDayMore_44 (fun H locs w => ?_)
        refine lv_aload_n S.1 S.2.1 dX5_giveOneDayMore_45 rfl (lv_at hl 0 rfl) ?_
        refine gX_2_4 S K w w131 dX5_giveOneDayMore_46 ?_
        refine lv_iload_n S.1 S.2.1 dX5_giveOneDayMore_49 rfl (lv_at hl 1 rfl) ?_
        refine lv_iconst (v := -1) S.1 S.2.1 dX5_giveOneDayMore_50 (by decide) ?_
        obtain ⟨g4, h⟩ := og_g h
        refine sX_17 S K w g4 dX5_giveOneDayMore_51 (fun H locs w => ?_)
        exact z_retv S w hr hlk dX5_giveOneDayMore_52 (Option.some.inj h).symm
      · have h := og_f c1 h
        refine lv_aload_n S.1 S.2.1 dX5_giveOneDayMore_12 rfl (lv_at hl 0 rfl) ?_
        refine gX_2_4 S K w w131 dX5_giveOneDayMore_13 ?_
        refine lv_iload_n S.1 S.2.1 dX5_giveOneDayMore_16 rfl (lv_at hl 2 rfl) ?_
        obtain ⟨g5, h⟩ := og_g h
        refine aX_17 S K w g5 dX5_giveOneDayMore_17 ?_
        refine lv_aload_n S.1 S.2.1 dX5_giveOneDayMore_18 rfl (lv_at hl 0 rfl) ?_
        refine gX_2_4 S K w w131 dX5_giveOneDayMore_19 ?_
        refine lv_iload_n S.1 S.2.1 dX5_giveOneDayMore_22 rfl (lv_at hl 1 rfl) ?_
        obtain ⟨g6, h⟩ := og_g h
        refine aX_17 S K w g6 dX5_giveOneDayMore_23 ?_
        refine lv_icmp_le (tgt := 29) S.1 S.2.1 dX5_giveOneDayMore_24 (by decide) (fun c7 => ?_) (fun c7 => ?_)
        · have h := og_t c7 h
          refine lv_iinc (v := (x2 + (1 : Int32))) (lv' := [(2, .int (x2 + (1 : Int32))), (0, .ref (ad 2)), (1, .int x1)]) S.1 S.2.1 dX5_giveOneDayMore_29 hl (k := 2) rfl rfl (by decide) rfl (fun ls hl => ?_)
          refine lv_goto (tgt := 4) S.1 S.2.1 dX5_giveOneDayMore_32 (by decide) ?_
          exact ih4 _ _ _ _ _ h _ _ _ (lv_sub hl [1, 2, 0] rfl) w
        · have h := og_f c7 h
          refine lv_iload_n S.1 S.2.1 dX5_giveOneDayMore_27 rfl (lv_at hl 2 rfl) ?_
          refine lv_istore_n (lv' := [(1, .int x2), (0, .ref (ad 2)), (2, .int x2)]) S.1 S.2.1 dX5_giveOneDayMore_28 rfl hl (by decide) rfl (fun ls hl => ?_)
          refine lv_iinc (v := (x2 + (1 : Int32))) (lv' := [(2, .int (x2 + (1 : Int32))), (1, .int x2), (0, .ref (ad 2))]) S.1 S.2.1 dX5_giveOneDayMore_29 hl (k := 2) rfl rfl (by decide) rfl (fun ls hl => ?_)
          refine lv_goto (tgt := 4) S.1 S.2.1 dX5_giveOneDayMore_32 (by decide) ?_
          exact ih4 _ _ _ _ _ h _ _ _ (lv_sub hl [2, 1, 0] rfl) w
  refine lv_iconst (v := 0) S.1 S.2.1 dX5_giveOneDayMore_0 (by decide) ?_
  refine lv_istore_n (lv' := [(1, .int (0 : Int32)), (0, .ref (ad 2))]) S.1 S.2.1 dX5_giveOneDayMore_1 rfl hl (by decide) rfl (fun ls hl => ?_)
  refine lv_iconst (v := 1) S.1 S.2.1 dX5_giveOneDayMore_2 (by decide) ?_
  refine lv_istore_n (lv' := [(2, .int (1 : Int32)), (1, .int (0 : Int32)), (0, .ref (ad 2))]) S.1 S.2.1 dX5_giveOneDayMore_3 rfl hl (by decide) rfl (fun ls hl => ?_)
  exact j4 1000 _ _ _ _ _ h _ _ _ (lv_sub hl [2, 1, 0] rfl) w
set_option maxHeartbeats 4000000 in
set_option maxRecDepth 100000 in
theorem c_X5_sentence (l : Launch) (D : va_G) (cs : Nat → ClassId) (ad : Nat → Nat) (F : ZF) (A : ZA) (T : Int64) (a0 : Int32) (q : ZS) (h : f_X5_sentence a0 F A T = some q) : zMv l D cs (XWc cs ad 10 11) yX5_sentence cX5_sentence 4 none rm_X5_sentence ([.ref (ad 2), .int a0] : List Value) F A T q := by
  refine z_enterv (by decide) (Nat.le_of_ble_eq_true rfl) ?_
  intro p e s m below meth c A0 ls S K w hA hr hlk hl
  have S : CallFix p m c cX5_sentence 4 s ([.ref (ad 2), .int a0] : List Value).toArray zWs RX5 := S
  have hl : lv_has ls 4 [(0, .ref (ad 2)), (1, .int a0)] := hl
  unfold f_X5_sentence at h
  have j15 : ∀ (n15 : Nat) (x1 x2 x3 : Int32) (F : ZF) (A : ZA) (T : Int64), f_X5_sentence_15 n15 x1 x2 x3 F A T = some q → ∀ (H : Heap) (locs : List Loc) (ls : Array Slot), lv_has ls 4 [(0, .ref (ad 2)), (1, .int x1), (2, .int x2), (3, .int x3)] → ZW D A0 s.heap (XWc cs ad 10 11 F A T) H locs → W p l e rm_X5_sentence s m ([.ref (ad 2), .int a0] : List Value).toArray below meth c H locs 0 0 (zQv (XWc cs ad 10 11) D A0 below ([.ref (ad 2), .int a0] : List Value) s q) (F0 m 15 ls []) := by
    intro n15
    induction n15 with
    | zero =>
      intro x1 x2 x3 F A T h H locs ls hl w
      have h : (none : Option ZS) = some q := h
      cases h
    | succ n15 ih15 =>
      intro x1 x2 x3 F A T h H locs ls hl w
      rw [f_X5_sentence_15_s] at h
      have j100 : ∀ (n100 : Nat) (x2 x3 : Int32) (F : ZF) (A : ZA) (T : Int64), f_X5_sentence_100 n100 x2 x3 F A T = some q → ∀ (H : Heap) (locs : List Loc) (ls : Array Slot), lv_has ls 4 [(0, .ref (ad 2)), (2, .int x2), (3, .int x3)] → ZW D A0 s.heap (XWc cs ad 10 11 F A T) H locs → W p l e rm_X5_sentence s m ([.ref (ad 2), .int a0] : List Value).toArray below meth c H locs 0 0 (zQv (XWc cs ad 10 11) D A0 below ([.ref (ad 2), .int a0] : List Value) s q) (F0 m 100 ls []) := by
        intro n100
        induction n100 with
        | zero =>
          intro x2 x3 F A T h H locs ls hl w
          have h : (none : Option ZS) = some q := h
          cases h
        | succ n100 ih100 =>
          intro x2 x3 F A T h H locs ls hl w
          rw [f_X5_sentence_100_s] at h
          refine lv_iload_n S.1 S.2.1 dX5_sentence_100 rfl (lv_at hl 2 rfl) ?_
          refine lv_bipush (v := 6) S.1 S.2.1 dX5_sentence_101 (by decide) ?_
          refine lv_icmp_ge (tgt := 123) S.1 S.2.1 dX5_sentence_103 (by decide) (fun c5 => ?_) (fun c5 => ?_)
          · have h := og_t c5 h
            exact z_retv S w hr hlk dX5_sentence_123 (Option.some.inj h).symm
          · have h := og_f c5 h
            refine lv_iload_n S.1 S.2.1 dX5_sentence_106 rfl (lv_at hl 1 rfl) ?_
            refine lv_if_le (tgt := 123) S.1 S.2.1 dX5_sentence_107 (by decide) (fun c6 => ?_) (fun c6 => ?_)
            · have h := og_t c6 h
              exact z_retv S w hr hlk dX5_sentence_123 (Option.some.inj h).symm
            · have h := og_f c6 h
              refine lv_aload_n S.1 S.2.1 dX5_sentence_110 rfl (lv_at hl 0 rfl) ?_
              obtain ⟨q7, e8, h⟩ := og_b h
              refine z_callVv S K w hA (c_X5_giveOneDayMore l D cs ad F A T q7 e8) (cw_X5_83 S.2.2.2.2 ⟨Nat.le_of_ble_eq_true rfl, Nat.le_of_ble_eq_true rfl⟩) (z_recv K w 2 5 rfl rfl) rfl hl.1 rfl (Nat.le_of_ble_eq_true rfl) ⟨Nat.zero_le _, Nat.zero_le _⟩ dX5_sentence_111 (fun H locs w => ?_)
              refine lv_iinc (v := (x2 + (-1 : Int32))) (lv' := [(2, .int (x2 + (-1 : Int32))), (0, .ref (ad 2)), (3, .int x3)]) S.1 S.2.1 dX5_sentence_114 hl (k := 1) rfl rfl (by decide) rfl (fun ls hl => ?_)
              refine lv_iinc (v := (x3 + (1 : Int32))) (lv' := [(3, .int (x3 + (1 : Int32))), (2, .int (x2 + (-1 : Int32))), (0, .ref (ad 2))]) S.1 S.2.1 dX5_sentence_117 hl (k := 2) rfl rfl (by decide) rfl (fun ls hl => ?_)
              refine lv_goto (tgt := 100) S.1 S.2.1 dX5_sentence_120 (by decide) ?_
              exact ih100 _ _ _ _ _ h _ _ _ (lv_sub hl [2, 1, 0] rfl) w
      have j52 : ∀ (x1 x2 x3 y0 y1 : Int32) (F : ZF) (A : ZA) (T : Int64), f_X5_sentence_52 (f_X5_sentence_15 n15) x1 x2 x3 y0 y1 F A T = some q → ∀ (H : Heap) (locs : List Loc) (ls : Array Slot), lv_has ls 4 [(0, .ref (ad 2)), (1, .int x1), (2, .int x2), (3, .int x3)] → ZW D A0 s.heap (XWc cs ad 10 11 F A T) H locs → W p l e rm_X5_sentence s m ([.ref (ad 2), .int a0] : List Value).toArray below meth c H locs 0 0 (zQv (XWc cs ad 10 11) D A0 below ([.ref (ad 2), .int a0] : List Value) s q) (F0 m 52 ls [.int y0, .int y1, .ref (ad 15)]) := by
        intro x1 x2 x3 y0 y1 F A T h H locs ls hl w
        unfold f_X5_sentence_52 at h
        have j82 : ∀ (x1 x2 x3 y0 y1 : Int32) (F : ZF) (A : ZA) (T : Int64), f_X5_sentence_82 (f_X5_sentence_15 n15) x1 x2 x3 y0 y1 F A T = some q → ∀ (H : Heap) (locs : List Loc) (ls : Array Slot), lv_has ls 4 [(0, .ref (ad 2)), (1, .int x1), (2, .int x2), (3, .int x3)] → ZW D A0 s.heap (XWc cs ad 10 11 F A T) H locs → W p l e rm_X5_sentence s m ([.ref (ad 2), .int a0] : List Value).toArray below meth c H locs 0 0 (zQv (XWc cs ad 10 11) D A0 below ([.ref (ad 2), .int a0] : List Value) s q) (F0 m 82 ls [.int y0, .int y1, .ref (ad 17)]) := by
          intro x1 x2 x3 y0 y1 F A T h H locs ls hl w
          unfold f_X5_sentence_82 at h
          obtain ⟨g13, h⟩ := og_g h
          refine sX_17 S K w g13 dX5_sentence_82 (fun H locs w => ?_)
          refine lv_iload_n S.1 S.2.1 dX5_sentence_83 rfl (lv_at hl 2 rfl) ?_
          refine lv_aload_n S.1 S.2.1 dX5_sentence_84 rfl (lv_at hl 0 rfl) ?_
          refine gX_2_1 S K w w125 dX5_sentence_85 ?_
          refine lv_iload_n S.1 S.2.1 dX5_sentence_88 rfl (lv_at hl 3 rfl) ?_
          obtain ⟨g14, h⟩ := og_g h
          refine aX_15 S K w g14 dX5_sentence_89 ?_
          refine lv_isub S.1 S.2.1 dX5_sentence_90 ?_
          refine lv_istore_n (lv' := [(2, .int (x2 - ((zst A 17 (y1).toNatClampNeg y0) 15 (x3).toNatClampNeg))), (0, .ref (ad 2)), (1, .int x1), (3, .int x3)]) S.1 S.2.1 dX5_sentence_91 rfl hl (by decide) rfl (fun ls hl => ?_)
          refine lv_iinc (v := (x3 + (1 : Int32))) (lv' := [(3, .int (x3 + (1 : Int32))), (2, .int (x2 - ((zst A 17 (y1).toNatClampNeg y0) 15 (x3).toNatClampNeg))), (0, .ref (ad 2)), (1, .int x1)]) S.1 S.2.1 dX5_sentence_92 hl (k := 3) rfl rfl (by decide) rfl (fun ls hl => ?_)
          refine lv_goto (tgt := 15) S.1 S.2.1 dX5_sentence_95 (by decide) ?_
          exact ih15 _ _ _ _ _ _ h _ _ _ (lv_sub hl [2, 3, 1, 0] rfl) w
        obtain ⟨g9, h⟩ := og_g h
        refine sX_15 S K w g9 dX5_sentence_52 (fun H locs w => ?_)
        refine lv_aload_n S.1 S.2.1 dX5_sentence_53 rfl (lv_at hl 0 rfl) ?_
        refine gX_2_4 S K w w131 dX5_sentence_54 ?_
        refine lv_iload_n S.1 S.2.1 dX5_sentence_57 rfl (lv_at hl 3 rfl) ?_
        refine lv_aload_n S.1 S.2.1 dX5_sentence_58 rfl (lv_at hl 0 rfl) ?_
        refine gX_2_3 S K w w129 dX5_sentence_59 ?_
        refine lv_if_ne (tgt := 69) S.1 S.2.1 dX5_sentence_62 (by decide) (fun c10 => ?_) (fun c10 => ?_)
        · have h := og_f c10 h
          refine lv_iload_n S.1 S.2.1 dX5_sentence_69 rfl (lv_at hl 1 rfl) ?_
          refine lv_aload_n S.1 S.2.1 dX5_sentence_70 rfl (lv_at hl 0 rfl) ?_
          refine gX_2_0 S K w w122 dX5_sentence_71 ?_
          refine lv_iload_n S.1 S.2.1 dX5_sentence_74 rfl (lv_at hl 3 rfl) ?_
          obtain ⟨g11, h⟩ := og_g h
          refine aX_14 S K w g11 dX5_sentence_75 ?_
          refine lv_imul S.1 S.2.1 dX5_sentence_76 ?_
          refine lv_aload_n S.1 S.2.1 dX5_sentence_77 rfl (lv_at hl 0 rfl) ?_
          refine gX_2_3 S K w w129 dX5_sentence_78 ?_
          obtain ⟨g12, h⟩ := og_d h
          refine lv_irem S.1 S.2.1 dX5_sentence_81 g12 ?_
          exact j82 _ _ _ _ _ _ _ _ h _ _ _ (lv_sub hl [0, 1, 2, 3] rfl) w
        · have h := og_t c10 h
          refine lv_iconst (v := 0) S.1 S.2.1 dX5_sentence_65 (by decide) ?_
          refine lv_goto (tgt := 82) S.1 S.2.1 dX5_sentence_66 (by decide) ?_
          exact j82 _ _ _ _ _ _ _ _ h _ _ _ (lv_sub hl [0, 1, 2, 3] rfl) w
      refine lv_iload_n S.1 S.2.1 dX5_sentence_15 rfl (lv_at hl 3 rfl) ?_
      refine lv_aload_n S.1 S.2.1 dX5_sentence_16 rfl (lv_at hl 0 rfl) ?_
      refine gX_2_5 S K w w132 dX5_sentence_17 ?_
      refine lv_icmp_ge (tgt := 98) S.1 S.2.1 dX5_sentence_20 (by decide) (fun c1 => ?_) (fun c1 => ?_)
      · have h := og_t c1 h
        refine lv_iconst (v := 0) S.1 S.2.1 dX5_sentence_98 (by decide) ?_
        refine lv_istore_n (lv' := [(3, .int (0 : Int32)), (0, .ref (ad 2)), (1, .int x1), (2, .int x2)]) S.1 S.2.1 dX5_sentence_99 rfl hl (by decide) rfl (fun ls hl => ?_)
        exact j100 1000 _ _ _ _ _ h _ _ _ (lv_sub hl [1, 3, 0] rfl) w
      · have h := og_f c1 h
        refine lv_aload_n S.1 S.2.1 dX5_sentence_23 rfl (lv_at hl 0 rfl) ?_
        refine gX_2_1 S K w w125 dX5_sentence_24 ?_
        refine lv_iload_n S.1 S.2.1 dX5_sentence_27 rfl (lv_at hl 3 rfl) ?_
        refine lv_aload_n S.1 S.2.1 dX5_sentence_28 rfl (lv_at hl 0 rfl) ?_
        refine gX_2_3 S K w w129 dX5_sentence_29 ?_
        refine lv_if_ne (tgt := 39) S.1 S.2.1 dX5_sentence_32 (by decide) (fun c2 => ?_) (fun c2 => ?_)
        · have h := og_f c2 h
          refine lv_iload_n S.1 S.2.1 dX5_sentence_39 rfl (lv_at hl 1 rfl) ?_
          refine lv_aload_n S.1 S.2.1 dX5_sentence_40 rfl (lv_at hl 0 rfl) ?_
          refine gX_2_0 S K w w122 dX5_sentence_41 ?_
          refine lv_iload_n S.1 S.2.1 dX5_sentence_44 rfl (lv_at hl 3 rfl) ?_
          obtain ⟨g3, h⟩ := og_g h
          refine aX_14 S K w g3 dX5_sentence_45 ?_
          refine lv_imul S.1 S.2.1 dX5_sentence_46 ?_
          refine lv_aload_n S.1 S.2.1 dX5_sentence_47 rfl (lv_at hl 0 rfl) ?_
          refine gX_2_3 S K w w129 dX5_sentence_48 ?_
          obtain ⟨g4, h⟩ := og_d h
          refine lv_idiv S.1 S.2.1 dX5_sentence_51 g4 ?_
          exact j52 _ _ _ _ _ _ _ _ h _ _ _ (lv_sub hl [0, 1, 2, 3] rfl) w
        · have h := og_t c2 h
          refine lv_iconst (v := 0) S.1 S.2.1 dX5_sentence_35 (by decide) ?_
          refine lv_goto (tgt := 52) S.1 S.2.1 dX5_sentence_36 (by decide) ?_
          exact j52 _ _ _ _ _ _ _ _ h _ _ _ (lv_sub hl [0, 1, 2, 3] rfl) w
  refine lv_aload_n S.1 S.2.1 dX5_sentence_0 rfl (lv_at hl 0 rfl) ?_
  refine gX_2_3 S K w w129 dX5_sentence_1 ?_
  refine lv_if_ne (tgt := 11) S.1 S.2.1 dX5_sentence_4 (by decide) (fun c15 => ?_) (fun c15 => ?_)
  · have h := og_f c15 h
    refine lv_iload_n S.1 S.2.1 dX5_sentence_11 rfl (lv_at hl 1 rfl) ?_
    refine lv_istore_n (lv' := [(2, .int a0), (0, .ref (ad 2)), (1, .int a0)]) S.1 S.2.1 dX5_sentence_12 rfl hl (by decide) rfl (fun ls hl => ?_)
    refine lv_iconst (v := 0) S.1 S.2.1 dX5_sentence_13 (by decide) ?_
    refine lv_istore_n (lv' := [(3, .int (0 : Int32)), (2, .int a0), (0, .ref (ad 2)), (1, .int a0)]) S.1 S.2.1 dX5_sentence_14 rfl hl (by decide) rfl (fun ls hl => ?_)
    exact j15 1000 _ _ _ _ _ _ h _ _ _ (lv_sub hl [2, 3, 1, 0] rfl) w
  · have h := og_t c15 h
    refine lv_iconst (v := 0) S.1 S.2.1 dX5_sentence_7 (by decide) ?_
    refine lv_goto (tgt := 12) S.1 S.2.1 dX5_sentence_8 (by decide) ?_
    refine lv_istore_n (lv' := [(2, .int (0 : Int32)), (0, .ref (ad 2)), (1, .int a0)]) S.1 S.2.1 dX5_sentence_12 rfl hl (by decide) rfl (fun ls hl => ?_)
    refine lv_iconst (v := 0) S.1 S.2.1 dX5_sentence_13 (by decide) ?_
    refine lv_istore_n (lv' := [(3, .int (0 : Int32)), (2, .int (0 : Int32)), (0, .ref (ad 2)), (1, .int a0)]) S.1 S.2.1 dX5_sentence_14 rfl hl (by decide) rfl (fun ls hl => ?_)
    exact j15 1000 _ _ _ _ _ _ h _ _ _ (lv_sub hl [2, 3, 1, 0] rfl) w
set_option maxHeartbeats 4000000 in
set_option maxRecDepth 100000 in
theorem c_X10_weighNow (l : Launch) (D : va_G) (cs : Nat → ClassId) (ad : Nat → Nat) (F : ZF) (A : ZA) (T : Int64) (q : ZS) (h : f_X10_weighNow F A T = some q) : zMv l D cs (XWc cs ad 10 11) yX10_weighNow cX10_weighNow 1 none rm_X10_weighNow ([.ref (ad 0)] : List Value) F A T q := by
  refine z_enterv (by decide) (Nat.le_of_ble_eq_true rfl) ?_
  intro p e s m below meth c A0 ls S K w hA hr hlk hl
  have S : CallFix p m c cX10_weighNow 1 s ([.ref (ad 0)] : List Value).toArray zWs RX10 := S
  have hl : lv_has ls 1 [(0, .ref (ad 0))] := hl
  unfold f_X10_weighNow at h
  refine lv_aload_n S.1 S.2.1 dX10_weighNow_0 rfl (lv_at hl 0 rfl) ?_
  refine gX_0_1 S K w w312 dX10_weighNow_1 ?_
  refine lv_aload_n S.1 S.2.1 dX10_weighNow_4 rfl (lv_at hl 0 rfl) ?_
  refine gX_0_11 S K w w330 dX10_weighNow_5 ?_
  refine lv_aload_n S.1 S.2.1 dX10_weighNow_8 rfl (lv_at hl 0 rfl) ?_
  refine gX_0_2 S K w w314 dX10_weighNow_9 ?_
  refine gX_3_1 S K w w156 dX10_weighNow_12 ?_
  obtain ⟨q1, e2, h⟩ := og_b h
  refine z_callVv S K w hA (c_X5_countHours l D cs ad F A T (F 11) q1 e2) (cw_X10_235 S.2.2.2.2 ⟨Nat.le_of_ble_eq_true rfl, Nat.le_of_ble_eq_true rfl⟩) (z_recv K w 2 5 rfl rfl) rfl hl.1 rfl (Nat.le_of_ble_eq_true rfl) ⟨Nat.zero_le _, Nat.zero_le _⟩ dX10_weighNow_15 (fun H locs w => ?_)
  refine lv_aload_n S.1 S.2.1 dX10_weighNow_18 rfl (lv_at hl 0 rfl) ?_
  refine gX_0_1 S K w w312 dX10_weighNow_19 ?_
  refine lv_aload_n S.1 S.2.1 dX10_weighNow_22 rfl (lv_at hl 0 rfl) ?_
  refine gX_0_11 S K w w330 dX10_weighNow_23 ?_
  refine lv_aload_n S.1 S.2.1 dX10_weighNow_26 rfl (lv_at hl 0 rfl) ?_
  refine gX_0_2 S K w w314 dX10_weighNow_27 ?_
  refine gX_3_0 S K w w154 dX10_weighNow_30 ?_
  obtain ⟨q3, e4, h⟩ := og_b h
  refine z_callVv S K w hA (c_X5_weigh l D cs ad q1.1 q1.2.1 q1.2.2 (q1.1 10) q3 e4) (cw_X10_260 S.2.2.2.2 ⟨Nat.le_of_ble_eq_true rfl, Nat.le_of_ble_eq_true rfl⟩) (z_recv K w 2 5 rfl rfl) rfl hl.1 rfl (Nat.le_of_ble_eq_true rfl) ⟨Nat.zero_le _, Nat.zero_le _⟩ dX10_weighNow_33 (fun H locs w => ?_)
  refine lv_aload_n S.1 S.2.1 dX10_weighNow_36 rfl (lv_at hl 0 rfl) ?_
  refine gX_0_1 S K w w312 dX10_weighNow_37 ?_
  refine lv_aload_n S.1 S.2.1 dX10_weighNow_40 rfl (lv_at hl 0 rfl) ?_
  refine gX_0_2 S K w w314 dX10_weighNow_41 ?_
  refine gX_3_2 S K w w158 dX10_weighNow_44 ?_
  obtain ⟨q5, e6, h⟩ := og_b h
  refine z_callVv S K w hA (c_X5_sentence l D cs ad q3.1 q3.2.1 q3.2.2 (q3.1 12) q5 e6) (cw_X10_263 S.2.2.2.2 ⟨Nat.le_of_ble_eq_true rfl, Nat.le_of_ble_eq_true rfl⟩) (z_recv K w 2 5 rfl rfl) rfl hl.1 rfl (Nat.le_of_ble_eq_true rfl) ⟨Nat.zero_le _, Nat.zero_le _⟩ dX10_weighNow_47 (fun H locs w => ?_)
  exact z_retv S w hr hlk dX10_weighNow_50 (Option.some.inj h).symm
set_option maxHeartbeats 4000000 in
set_option maxRecDepth 100000 in
theorem c_X10_suspect (l : Launch) (D : va_G) (cs : Nat → ClassId) (ad : Nat → Nat) (F : ZF) (A : ZA) (T : Int64) (a0 a1 : Int32) (q : (Int32 × ZS)) (h : f_X10_suspect a0 a1 F A T = some q) : zMi l D cs (XWc cs ad 10 11) yX10_suspect cX10_suspect 3 (some .int) rm_X10_suspect ([.ref (ad 0), .int a0, .int a1] : List Value) F A T q True := by
  refine z_enteri (by decide) (Nat.le_of_ble_eq_true rfl) ?_
  intro p e s m below meth c A0 ls S K w hA hr hlk hl
  have S : CallFix p m c cX10_suspect 3 s ([.ref (ad 0), .int a0, .int a1] : List Value).toArray zWs RX10 := S
  have hl : lv_has ls 3 [(0, .ref (ad 0)), (1, .int a0), (2, .int a1)] := hl
  unfold f_X10_suspect at h
  refine lv_aload_n S.1 S.2.1 dX10_suspect_0 rfl (lv_at hl 0 rfl) ?_
  refine lv_iload_n S.1 S.2.1 dX10_suspect_1 rfl (lv_at hl 1 rfl) ?_
  refine z_callVr S K w hA (c_X10_isSuspect l D cs ad F A T a0 (f_X10_isSuspect a0 F A T) rfl) (cw_X10_107 S.2.2.2.2 ⟨Nat.le_of_ble_eq_true rfl, Nat.le_of_ble_eq_true rfl⟩) (z_recv K w 0 10 rfl rfl) rfl hl.1 rfl (Nat.le_of_ble_eq_true rfl) ⟨Nat.zero_le _, Nat.zero_le _⟩ dX10_suspect_2 (fun b1 H locs w => ?_)
  refine lv_if_eq (tgt := 17) S.1 S.2.1 dX10_suspect_5 (by decide) (fun c2 => ?_) (fun c2 => ?_)
  · have h := og_t c2 h
    refine lv_iconst (v := -1) S.1 S.2.1 dX10_suspect_17 (by decide) ?_
    exact z_reti S w hr hlk dX10_suspect_18 trivial (Option.some.inj h).symm
  · have h := og_f c2 h
    refine lv_iload_n S.1 S.2.1 dX10_suspect_8 rfl (lv_at hl 2 rfl) ?_
    refine lv_iconst (v := 0) S.1 S.2.1 dX10_suspect_9 (by decide) ?_
    refine lv_iconst (v := 3) S.1 S.2.1 dX10_suspect_10 (by decide) ?_
    refine z_callSr S K w hA (c_X10_within l D cs ad F A T a1 (0 : Int32) (3 : Int32) (f_X10_within a1 (0 : Int32) (3 : Int32)) rfl) (cw_X10_90 S.2.2.2.2 ⟨Nat.le_of_ble_eq_true rfl, Nat.le_of_ble_eq_true rfl⟩) rfl hl.1 rfl (Nat.le_of_ble_eq_true rfl) ⟨Nat.zero_le _, Nat.zero_le _⟩ dX10_suspect_11 (fun b3 H locs w => ?_)
    refine lv_if_ne (tgt := 19) S.1 S.2.1 dX10_suspect_14 (by decide) (fun c4 => ?_) (fun c4 => ?_)
    · have h := og_f c4 h
      refine lv_aload_n S.1 S.2.1 dX10_suspect_19 rfl (lv_at hl 0 rfl) ?_
      obtain ⟨q5, e6, h⟩ := og_b h
      refine z_callVv S K w hA (c_X10_weighNow l D cs ad F A T q5 e6) (cw_X10_111 S.2.2.2.2 ⟨Nat.le_of_ble_eq_true rfl, Nat.le_of_ble_eq_true rfl⟩) (z_recv K w 0 10 rfl rfl) rfl hl.1 rfl (Nat.le_of_ble_eq_true rfl) ⟨Nat.zero_le _, Nat.zero_le _⟩ dX10_suspect_20 (fun H locs w => ?_)
      refine lv_iload_n S.1 S.2.1 dX10_suspect_23 rfl (lv_at hl 2 rfl) ?_
      by_cases c7 : a1 = (0 : Int32)
      · have h := og_t c7 h
        refine lv_tableIn (tgt := 52) S.1 S.2.1 dX10_suspect_24 (by rw [c7]; decide) (by rw [c7]; decide) (off := 28) (by rw [c7]; decide) (by decide) ?_
        refine lv_aload_n S.1 S.2.1 dX10_suspect_52 rfl (lv_at hl 0 rfl) ?_
        refine gX_0_11 S K w w330 dX10_suspect_53 ?_
        refine gX_10_6 S K w w251 dX10_suspect_56 ?_
        refine lv_iload_n S.1 S.2.1 dX10_suspect_59 rfl (lv_at hl 1 rfl) ?_
        obtain ⟨g8, h⟩ := og_g h
        refine aX_29 S K w g8 dX10_suspect_60 ?_
        exact z_reti S w hr hlk dX10_suspect_61 trivial (Option.some.inj h).symm
      · have h := og_f c7 h
        by_cases c9 : a1 = (1 : Int32)
        · have h := og_t c9 h
          refine lv_tableIn (tgt := 62) S.1 S.2.1 dX10_suspect_24 (by rw [c9]; decide) (by rw [c9]; decide) (off := 38) (by rw [c9]; decide) (by decide) ?_
          refine lv_aload_n S.1 S.2.1 dX10_suspect_62 rfl (lv_at hl 0 rfl) ?_
          refine gX_0_1 S K w w312 dX10_suspect_63 ?_
          refine gX_2_0 S K w w124 dX10_suspect_66 ?_
          refine lv_iload_n S.1 S.2.1 dX10_suspect_69 rfl (lv_at hl 1 rfl) ?_
          obtain ⟨g10, h⟩ := og_g h
          refine aX_14 S K w g10 dX10_suspect_70 ?_
          exact z_reti S w hr hlk dX10_suspect_71 trivial (Option.some.inj h).symm
        · have h := og_f c9 h
          by_cases c11 : a1 = (2 : Int32)
          · have h := og_t c11 h
            refine lv_tableIn (tgt := 72) S.1 S.2.1 dX10_suspect_24 (by rw [c11]; decide) (by rw [c11]; decide) (off := 48) (by rw [c11]; decide) (by decide) ?_
            refine lv_aload_n S.1 S.2.1 dX10_suspect_72 rfl (lv_at hl 0 rfl) ?_
            refine gX_0_1 S K w w312 dX10_suspect_73 ?_
            refine gX_2_1 S K w w126 dX10_suspect_76 ?_
            refine lv_iload_n S.1 S.2.1 dX10_suspect_79 rfl (lv_at hl 1 rfl) ?_
            obtain ⟨g12, h⟩ := og_g h
            refine aX_15 S K w g12 dX10_suspect_80 ?_
            exact z_reti S w hr hlk dX10_suspect_81 trivial (Option.some.inj h).symm
          · have h := og_f c11 h
            refine lv_tableOut (tgt := 82) S.1 S.2.1 dX10_suspect_24 (by have := lv_neT (k := (0 : Int32)) (a := 0) c7 (by decide); have := lv_neT (k := (1 : Int32)) (a := 1) c9 (by decide); have := lv_neT (k := (2 : Int32)) (a := 2) c11 (by decide); omega) (by decide) ?_
            refine lv_aload_n S.1 S.2.1 dX10_suspect_82 rfl (lv_at hl 0 rfl) ?_
            refine gX_0_1 S K w w312 dX10_suspect_83 ?_
            refine gX_2_2 S K w w128 dX10_suspect_86 ?_
            refine lv_iload_n S.1 S.2.1 dX10_suspect_89 rfl (lv_at hl 1 rfl) ?_
            obtain ⟨g13, h⟩ := og_g h
            refine aX_16 S K w g13 dX10_suspect_90 ?_
            exact z_reti S w hr hlk dX10_suspect_91 trivial (Option.some.inj h).symm
    · have h := og_t c4 h
      refine lv_iconst (v := -1) S.1 S.2.1 dX10_suspect_17 (by decide) ?_
      exact z_reti S w hr hlk dX10_suspect_18 trivial (Option.some.inj h).symm
set_option maxHeartbeats 4000000 in
set_option maxRecDepth 100000 in
theorem c_X10_isFact (l : Launch) (D : va_G) (cs : Nat → ClassId) (ad : Nat → Nat) (F : ZF) (A : ZA) (T : Int64) (a0 : Int32) (q : Int32) (h : f_X10_isFact a0 F A T = q) : zMi l D cs (XWc cs ad 10 11) yX10_isFact cX10_isFact 2 (some .boolean) rm_X10_isFact ([.ref (ad 0), .int a0] : List Value) F A T ((q, F, A, T) : Int32 × ZS) (((q, F, A, T) : Int32 × ZS).1 &&& 1 = ((q, F, A, T) : Int32 × ZS).1) := by
  refine z_enteri (by decide) (Nat.le_of_ble_eq_true rfl) ?_
  intro p e s m below meth c A0 ls S K w hA hr hlk hl
  have S : CallFix p m c cX10_isFact 2 s ([.ref (ad 0), .int a0] : List Value).toArray zWs RX10 := S
  have hl : lv_has ls 2 [(0, .ref (ad 0)), (1, .int a0)] := hl
  unfold f_X10_isFact at h
  refine lv_iload_n S.1 S.2.1 dX10_isFact_0 rfl (lv_at hl 1 rfl) ?_
  refine lv_iconst (v := 0) S.1 S.2.1 dX10_isFact_1 (by decide) ?_
  refine lv_aload_n S.1 S.2.1 dX10_isFact_2 rfl (lv_at hl 0 rfl) ?_
  refine gX_0_11 S K w w330 dX10_isFact_3 ?_
  refine gX_10_1 S K w w231 dX10_isFact_6 ?_
  refine lv_iconst (v := 1) S.1 S.2.1 dX10_isFact_9 (by decide) ?_
  refine lv_isub S.1 S.2.1 dX10_isFact_10 ?_
  refine z_callSr S K w hA (c_X10_within l D cs ad F A T a0 (0 : Int32) ((F 23) - (1 : Int32)) (f_X10_within a0 (0 : Int32) ((F 23) - (1 : Int32))) rfl) (cw_X10_90 S.2.2.2.2 ⟨Nat.le_of_ble_eq_true rfl, Nat.le_of_ble_eq_true rfl⟩) rfl hl.1 rfl (Nat.le_of_ble_eq_true rfl) ⟨Nat.zero_le _, Nat.zero_le _⟩ dX10_isFact_11 (fun b1 H locs w => ?_)
  exact z_retz S w hr hlk dX10_isFact_14 b1 (by rw [← h])
set_option maxHeartbeats 4000000 in
set_option maxRecDepth 100000 in
theorem c_X10_fact (l : Launch) (D : va_G) (cs : Nat → ClassId) (ad : Nat → Nat) (F : ZF) (A : ZA) (T : Int64) (a0 a1 : Int32) (q : Int32) (h : f_X10_fact a0 a1 F A T = some q) : zMi l D cs (XWc cs ad 10 11) yX10_fact cX10_fact 3 (some .int) rm_X10_fact ([.ref (ad 0), .int a0, .int a1] : List Value) F A T ((q, F, A, T) : Int32 × ZS) True := by
  refine z_enteri (by decide) (Nat.le_of_ble_eq_true rfl) ?_
  intro p e s m below meth c A0 ls S K w hA hr hlk hl
  have S : CallFix p m c cX10_fact 3 s ([.ref (ad 0), .int a0, .int a1] : List Value).toArray zWs RX10 := S
  have hl : lv_has ls 3 [(0, .ref (ad 0)), (1, .int a0), (2, .int a1)] := hl
  unfold f_X10_fact at h
  refine lv_aload_n S.1 S.2.1 dX10_fact_0 rfl (lv_at hl 0 rfl) ?_
  refine lv_iload_n S.1 S.2.1 dX10_fact_1 rfl (lv_at hl 1 rfl) ?_
  refine z_callVr S K w hA (c_X10_isFact l D cs ad F A T a0 (f_X10_isFact a0 F A T) rfl) (cw_X10_126 S.2.2.2.2 ⟨Nat.le_of_ble_eq_true rfl, Nat.le_of_ble_eq_true rfl⟩) (z_recv K w 0 10 rfl rfl) rfl hl.1 rfl (Nat.le_of_ble_eq_true rfl) ⟨Nat.zero_le _, Nat.zero_le _⟩ dX10_fact_2 (fun b1 H locs w => ?_)
  refine lv_if_eq (tgt := 17) S.1 S.2.1 dX10_fact_5 (by decide) (fun c2 => ?_) (fun c2 => ?_)
  · have h := og_t c2 h
    refine lv_iconst (v := -1) S.1 S.2.1 dX10_fact_17 (by decide) ?_
    exact z_reti S w hr hlk dX10_fact_18 trivial (by rw [← Option.some.inj h])
  · have h := og_f c2 h
    refine lv_iload_n S.1 S.2.1 dX10_fact_8 rfl (lv_at hl 2 rfl) ?_
    refine lv_iconst (v := 0) S.1 S.2.1 dX10_fact_9 (by decide) ?_
    refine lv_iconst (v := 2) S.1 S.2.1 dX10_fact_10 (by decide) ?_
    refine z_callSr S K w hA (c_X10_within l D cs ad F A T a1 (0 : Int32) (2 : Int32) (f_X10_within a1 (0 : Int32) (2 : Int32)) rfl) (cw_X10_90 S.2.2.2.2 ⟨Nat.le_of_ble_eq_true rfl, Nat.le_of_ble_eq_true rfl⟩) rfl hl.1 rfl (Nat.le_of_ble_eq_true rfl) ⟨Nat.zero_le _, Nat.zero_le _⟩ dX10_fact_11 (fun b3 H locs w => ?_)
    refine lv_if_ne (tgt := 19) S.1 S.2.1 dX10_fact_14 (by decide) (fun c4 => ?_) (fun c4 => ?_)
    · have h := og_f c4 h
      refine lv_iload_n S.1 S.2.1 dX10_fact_19 rfl (lv_at hl 2 rfl) ?_
      by_cases c5 : a1 = (0 : Int32)
      · have h := og_t c5 h
        refine lv_lookup (tgt := 48) S.1 S.2.1 dX10_fact_20 (by decide) (off := 28) (by rw [c5]; decide) (by decide) ?_
        refine lv_aload_n S.1 S.2.1 dX10_fact_48 rfl (lv_at hl 0 rfl) ?_
        refine gX_0_11 S K w w330 dX10_fact_49 ?_
        refine gX_10_7 S K w w253 dX10_fact_52 ?_
        refine lv_iload_n S.1 S.2.1 dX10_fact_55 rfl (lv_at hl 1 rfl) ?_
        obtain ⟨g6, h⟩ := og_g h
        refine aX_30 S K w g6 dX10_fact_56 ?_
        exact z_reti S w hr hlk dX10_fact_57 trivial (by rw [← Option.some.inj h])
      · have h := og_f c5 h
        by_cases c7 : a1 = (1 : Int32)
        · have h := og_t c7 h
          refine lv_lookup (tgt := 58) S.1 S.2.1 dX10_fact_20 (by decide) (off := 38) (by rw [c7]; decide) (by decide) ?_
          refine lv_aload_n S.1 S.2.1 dX10_fact_58 rfl (lv_at hl 0 rfl) ?_
          refine gX_0_11 S K w w330 dX10_fact_59 ?_
          refine gX_10_8 S K w w255 dX10_fact_62 ?_
          refine lv_iload_n S.1 S.2.1 dX10_fact_65 rfl (lv_at hl 1 rfl) ?_
          obtain ⟨g8, h⟩ := og_g h
          refine aX_31 S K w g8 dX10_fact_66 ?_
          exact z_reti S w hr hlk dX10_fact_67 trivial (by rw [← Option.some.inj h])
        · have h := og_f c7 h
          refine lv_lookup (tgt := 68) S.1 S.2.1 dX10_fact_20 (by decide) (off := 48) (by show Op.lookupswitch.offset [(0, 28), (1, 38)] 48 _ = 48; rw [lv_osw (k := (0 : Int32)) c5 (by decide), lv_osw (k := (1 : Int32)) c7 (by decide)]; rfl) (by decide) ?_
          refine lv_aload_n S.1 S.2.1 dX10_fact_68 rfl (lv_at hl 0 rfl) ?_
          refine gX_0_2 S K w w314 dX10_fact_69 ?_
          refine gX_3_0 S K w w154 dX10_fact_72 ?_
          refine lv_iload_n S.1 S.2.1 dX10_fact_75 rfl (lv_at hl 1 rfl) ?_
          refine z_callSr S K w hA (c_X10_bit l D cs ad F A T (F 10) a0 (f_X10_bit (F 10) a0) rfl) (cw_X10_138 S.2.2.2.2 ⟨Nat.le_of_ble_eq_true rfl, Nat.le_of_ble_eq_true rfl⟩) rfl hl.1 rfl (Nat.le_of_ble_eq_true rfl) ⟨Nat.zero_le _, Nat.zero_le _⟩ dX10_fact_76 (fun b9 H locs w => ?_)
          exact z_reti S w hr hlk dX10_fact_79 trivial (by rw [← Option.some.inj h])
    · have h := og_t c4 h
      refine lv_iconst (v := -1) S.1 S.2.1 dX10_fact_17 (by decide) ?_
      exact z_reti S w hr hlk dX10_fact_18 trivial (by rw [← Option.some.inj h])
set_option maxHeartbeats 4000000 in
set_option maxRecDepth 100000 in
theorem c_X10_moves (l : Launch) (D : va_G) (cs : Nat → ClassId) (ad : Nat → Nat) (F : ZF) (A : ZA) (T : Int64) (a0 a1 : Int32) (q : Int32) (h : f_X10_moves a0 a1 F A T = some q) : zMi l D cs (XWc cs ad 10 11) yX10_moves cX10_moves 3 (some .int) rm_X10_moves ([.ref (ad 0), .int a0, .int a1] : List Value) F A T ((q, F, A, T) : Int32 × ZS) True := by
  refine z_enteri (by decide) (Nat.le_of_ble_eq_true rfl) ?_
  intro p e s m below meth c A0 ls S K w hA hr hlk hl
  have S : CallFix p m c cX10_moves 3 s ([.ref (ad 0), .int a0, .int a1] : List Value).toArray zWs RX10 := S
  have hl : lv_has ls 3 [(0, .ref (ad 0)), (1, .int a0), (2, .int a1)] := hl
  unfold f_X10_moves at h
  refine lv_aload_n S.1 S.2.1 dX10_moves_0 rfl (lv_at hl 0 rfl) ?_
  refine lv_iload_n S.1 S.2.1 dX10_moves_1 rfl (lv_at hl 1 rfl) ?_
  refine z_callVr S K w hA (c_X10_isFact l D cs ad F A T a0 (f_X10_isFact a0 F A T) rfl) (cw_X10_126 S.2.2.2.2 ⟨Nat.le_of_ble_eq_true rfl, Nat.le_of_ble_eq_true rfl⟩) (z_recv K w 0 10 rfl rfl) rfl hl.1 rfl (Nat.le_of_ble_eq_true rfl) ⟨Nat.zero_le _, Nat.zero_le _⟩ dX10_moves_2 (fun b1 H locs w => ?_)
  refine lv_if_eq (tgt := 16) S.1 S.2.1 dX10_moves_5 (by decide) (fun c2 => ?_) (fun c2 => ?_)
  · have h := og_t c2 h
    refine lv_ldc (v := -1000000) S.1 S.2.1 S.2.2.2.1 (S.2.2.2.2 _ w491) dX10_moves_16 ?_
    exact z_reti S w hr hlk dX10_moves_18 trivial (by rw [← Option.some.inj h])
  · have h := og_f c2 h
    refine lv_aload_n S.1 S.2.1 dX10_moves_8 rfl (lv_at hl 0 rfl) ?_
    refine lv_iload_n S.1 S.2.1 dX10_moves_9 rfl (lv_at hl 2 rfl) ?_
    refine z_callVr S K w hA (c_X10_isSuspect l D cs ad F A T a1 (f_X10_isSuspect a1 F A T) rfl) (cw_X10_107 S.2.2.2.2 ⟨Nat.le_of_ble_eq_true rfl, Nat.le_of_ble_eq_true rfl⟩) (z_recv K w 0 10 rfl rfl) rfl hl.1 rfl (Nat.le_of_ble_eq_true rfl) ⟨Nat.zero_le _, Nat.zero_le _⟩ dX10_moves_10 (fun b3 H locs w => ?_)
    refine lv_if_ne (tgt := 19) S.1 S.2.1 dX10_moves_13 (by decide) (fun c4 => ?_) (fun c4 => ?_)
    · have h := og_f c4 h
      refine lv_aload_n S.1 S.2.1 dX10_moves_19 rfl (lv_at hl 0 rfl) ?_
      refine gX_0_11 S K w w330 dX10_moves_20 ?_
      refine gX_10_9 S K w w257 dX10_moves_23 ?_
      refine lv_iload_n S.1 S.2.1 dX10_moves_26 rfl (lv_at hl 1 rfl) ?_
      refine lv_bipush (v := 6) S.1 S.2.1 dX10_moves_27 (by decide) ?_
      refine lv_imul S.1 S.2.1 dX10_moves_29 ?_
      refine lv_iload_n S.1 S.2.1 dX10_moves_30 rfl (lv_at hl 2 rfl) ?_
      refine lv_iadd S.1 S.2.1 dX10_moves_31 ?_
      obtain ⟨g5, h⟩ := og_g h
      refine aX_32 S K w g5 dX10_moves_32 ?_
      exact z_reti S w hr hlk dX10_moves_33 trivial (by rw [← Option.some.inj h])
    · have h := og_t c4 h
      refine lv_ldc (v := -1000000) S.1 S.2.1 S.2.2.2.1 (S.2.2.2.2 _ w491) dX10_moves_16 ?_
      exact z_reti S w hr hlk dX10_moves_18 trivial (by rw [← Option.some.inj h])
set_option maxHeartbeats 4000000 in
set_option maxRecDepth 100000 in
theorem c_X10_isAlibi (l : Launch) (D : va_G) (cs : Nat → ClassId) (ad : Nat → Nat) (F : ZF) (A : ZA) (T : Int64) (a0 : Int32) (q : Int32) (h : f_X10_isAlibi a0 F A T = q) : zMi l D cs (XWc cs ad 10 11) yX10_isAlibi cX10_isAlibi 2 (some .boolean) rm_X10_isAlibi ([.ref (ad 0), .int a0] : List Value) F A T ((q, F, A, T) : Int32 × ZS) (((q, F, A, T) : Int32 × ZS).1 &&& 1 = ((q, F, A, T) : Int32 × ZS).1) := by
  refine z_enteri (by decide) (Nat.le_of_ble_eq_true rfl) ?_
  intro p e s m below meth c A0 ls S K w hA hr hlk hl
  have S : CallFix p m c cX10_isAlibi 2 s ([.ref (ad 0), .int a0] : List Value).toArray zWs RX10 := S
  have hl : lv_has ls 2 [(0, .ref (ad 0)), (1, .int a0)] := hl
  unfold f_X10_isAlibi at h
  refine lv_iload_n S.1 S.2.1 dX10_isAlibi_0 rfl (lv_at hl 1 rfl) ?_
  refine lv_iconst (v := 0) S.1 S.2.1 dX10_isAlibi_1 (by decide) ?_
  refine lv_aload_n S.1 S.2.1 dX10_isAlibi_2 rfl (lv_at hl 0 rfl) ?_
  refine gX_0_11 S K w w330 dX10_isAlibi_3 ?_
  refine gX_10_2 S K w w236 dX10_isAlibi_6 ?_
  refine lv_iconst (v := 1) S.1 S.2.1 dX10_isAlibi_9 (by decide) ?_
  refine lv_isub S.1 S.2.1 dX10_isAlibi_10 ?_
  refine z_callSr S K w hA (c_X10_within l D cs ad F A T a0 (0 : Int32) ((F 24) - (1 : Int32)) (f_X10_within a0 (0 : Int32) ((F 24) - (1 : Int32))) rfl) (cw_X10_90 S.2.2.2.2 ⟨Nat.le_of_ble_eq_true rfl, Nat.le_of_ble_eq_true rfl⟩) rfl hl.1 rfl (Nat.le_of_ble_eq_true rfl) ⟨Nat.zero_le _, Nat.zero_le _⟩ dX10_isAlibi_11 (fun b1 H locs w => ?_)
  exact z_retz S w hr hlk dX10_isAlibi_14 b1 (by rw [← h])
set_option maxHeartbeats 4000000 in
set_option maxRecDepth 100000 in
theorem c_X10_alibi (l : Launch) (D : va_G) (cs : Nat → ClassId) (ad : Nat → Nat) (F : ZF) (A : ZA) (T : Int64) (a0 a1 : Int32) (q : Int32) (h : f_X10_alibi a0 a1 F A T = some q) : zMi l D cs (XWc cs ad 10 11) yX10_alibi cX10_alibi 3 (some .int) rm_X10_alibi ([.ref (ad 0), .int a0, .int a1] : List Value) F A T ((q, F, A, T) : Int32 × ZS) True := by
  refine z_enteri (by decide) (Nat.le_of_ble_eq_true rfl) ?_
  intro p e s m below meth c A0 ls S K w hA hr hlk hl
  have S : CallFix p m c cX10_alibi 3 s ([.ref (ad 0), .int a0, .int a1] : List Value).toArray zWs RX10 := S
  have hl : lv_has ls 3 [(0, .ref (ad 0)), (1, .int a0), (2, .int a1)] := hl
  unfold f_X10_alibi at h
  refine lv_aload_n S.1 S.2.1 dX10_alibi_0 rfl (lv_at hl 0 rfl) ?_
  refine lv_iload_n S.1 S.2.1 dX10_alibi_1 rfl (lv_at hl 1 rfl) ?_
  refine z_callVr S K w hA (c_X10_isAlibi l D cs ad F A T a0 (f_X10_isAlibi a0 F A T) rfl) (cw_X10_146 S.2.2.2.2 ⟨Nat.le_of_ble_eq_true rfl, Nat.le_of_ble_eq_true rfl⟩) (z_recv K w 0 10 rfl rfl) rfl hl.1 rfl (Nat.le_of_ble_eq_true rfl) ⟨Nat.zero_le _, Nat.zero_le _⟩ dX10_alibi_2 (fun b1 H locs w => ?_)
  refine lv_if_eq (tgt := 17) S.1 S.2.1 dX10_alibi_5 (by decide) (fun c2 => ?_) (fun c2 => ?_)
  · have h := og_t c2 h
    refine lv_iconst (v := -1) S.1 S.2.1 dX10_alibi_17 (by decide) ?_
    exact z_reti S w hr hlk dX10_alibi_18 trivial (by rw [← Option.some.inj h])
  · have h := og_f c2 h
    refine lv_iload_n S.1 S.2.1 dX10_alibi_8 rfl (lv_at hl 2 rfl) ?_
    refine lv_iconst (v := 0) S.1 S.2.1 dX10_alibi_9 (by decide) ?_
    refine lv_iconst (v := 4) S.1 S.2.1 dX10_alibi_10 (by decide) ?_
    refine z_callSr S K w hA (c_X10_within l D cs ad F A T a1 (0 : Int32) (4 : Int32) (f_X10_within a1 (0 : Int32) (4 : Int32)) rfl) (cw_X10_90 S.2.2.2.2 ⟨Nat.le_of_ble_eq_true rfl, Nat.le_of_ble_eq_true rfl⟩) rfl hl.1 rfl (Nat.le_of_ble_eq_true rfl) ⟨Nat.zero_le _, Nat.zero_le _⟩ dX10_alibi_11 (fun b3 H locs w => ?_)
    refine lv_if_ne (tgt := 19) S.1 S.2.1 dX10_alibi_14 (by decide) (fun c4 => ?_) (fun c4 => ?_)
    · have h := og_f c4 h
      refine lv_iload_n S.1 S.2.1 dX10_alibi_19 rfl (lv_at hl 2 rfl) ?_
      by_cases c5 : a1 = (0 : Int32)
      · have h := og_t c5 h
        refine lv_tableIn (tgt := 52) S.1 S.2.1 dX10_alibi_20 (by rw [c5]; decide) (by rw [c5]; decide) (off := 32) (by rw [c5]; decide) (by decide) ?_
        refine lv_aload_n S.1 S.2.1 dX10_alibi_52 rfl (lv_at hl 0 rfl) ?_
        refine gX_0_11 S K w w330 dX10_alibi_53 ?_
        refine gX_10_11 S K w w263 dX10_alibi_56 ?_
        refine lv_iload_n S.1 S.2.1 dX10_alibi_59 rfl (lv_at hl 1 rfl) ?_
        obtain ⟨g6, h⟩ := og_g h
        refine aX_34 S K w g6 dX10_alibi_60 ?_
        exact z_reti S w hr hlk dX10_alibi_61 trivial (by rw [← Option.some.inj h])
      · have h := og_f c5 h
        by_cases c7 : a1 = (1 : Int32)
        · have h := og_t c7 h
          refine lv_tableIn (tgt := 62) S.1 S.2.1 dX10_alibi_20 (by rw [c7]; decide) (by rw [c7]; decide) (off := 42) (by rw [c7]; decide) (by decide) ?_
          refine lv_aload_n S.1 S.2.1 dX10_alibi_62 rfl (lv_at hl 0 rfl) ?_
          refine gX_0_11 S K w w330 dX10_alibi_63 ?_
          refine gX_10_12 S K w w265 dX10_alibi_66 ?_
          refine lv_iload_n S.1 S.2.1 dX10_alibi_69 rfl (lv_at hl 1 rfl) ?_
          obtain ⟨g8, h⟩ := og_g h
          refine aX_35 S K w g8 dX10_alibi_70 ?_
          exact z_reti S w hr hlk dX10_alibi_71 trivial (by rw [← Option.some.inj h])
        · have h := og_f c7 h
          by_cases c9 : a1 = (2 : Int32)
          · have h := og_t c9 h
            refine lv_tableIn (tgt := 72) S.1 S.2.1 dX10_alibi_20 (by rw [c9]; decide) (by rw [c9]; decide) (off := 52) (by rw [c9]; decide) (by decide) ?_
            refine lv_aload_n S.1 S.2.1 dX10_alibi_72 rfl (lv_at hl 0 rfl) ?_
            refine gX_0_11 S K w w330 dX10_alibi_73 ?_
            refine gX_10_13 S K w w268 dX10_alibi_76 ?_
            refine lv_iload_n S.1 S.2.1 dX10_alibi_79 rfl (lv_at hl 1 rfl) ?_
            obtain ⟨g10, h⟩ := og_g h
            refine aX_36 S K w g10 dX10_alibi_80 ?_
            exact z_reti S w hr hlk dX10_alibi_81 trivial (by rw [← Option.some.inj h])
          · have h := og_f c9 h
            by_cases c11 : a1 = (3 : Int32)
            · have h := og_t c11 h
              refine lv_tableIn (tgt := 82) S.1 S.2.1 dX10_alibi_20 (by rw [c11]; decide) (by rw [c11]; decide) (off := 62) (by rw [c11]; decide) (by decide) ?_
              refine lv_aload_n S.1 S.2.1 dX10_alibi_82 rfl (lv_at hl 0 rfl) ?_
              refine gX_0_11 S K w w330 dX10_alibi_83 ?_
              refine gX_10_14 S K w w271 dX10_alibi_86 ?_
              refine lv_iload_n S.1 S.2.1 dX10_alibi_89 rfl (lv_at hl 1 rfl) ?_
              obtain ⟨g12, h⟩ := og_g h
              refine aX_37 S K w g12 dX10_alibi_90 ?_
              exact z_reti S w hr hlk dX10_alibi_91 trivial (by rw [← Option.some.inj h])
            · have h := og_f c11 h
              refine lv_tableOut (tgt := 92) S.1 S.2.1 dX10_alibi_20 (by have := lv_neT (k := (0 : Int32)) (a := 0) c5 (by decide); have := lv_neT (k := (1 : Int32)) (a := 1) c7 (by decide); have := lv_neT (k := (2 : Int32)) (a := 2) c9 (by decide); have := lv_neT (k := (3 : Int32)) (a := 3) c11 (by decide); omega) (by decide) ?_
              refine lv_aload_n S.1 S.2.1 dX10_alibi_92 rfl (lv_at hl 0 rfl) ?_
              refine gX_0_2 S K w w314 dX10_alibi_93 ?_
              refine gX_3_1 S K w w156 dX10_alibi_96 ?_
              refine lv_iload_n S.1 S.2.1 dX10_alibi_99 rfl (lv_at hl 1 rfl) ?_
              refine z_callSr S K w hA (c_X10_bit l D cs ad F A T (F 11) a0 (f_X10_bit (F 11) a0) rfl) (cw_X10_138 S.2.2.2.2 ⟨Nat.le_of_ble_eq_true rfl, Nat.le_of_ble_eq_true rfl⟩) rfl hl.1 rfl (Nat.le_of_ble_eq_true rfl) ⟨Nat.zero_le _, Nat.zero_le _⟩ dX10_alibi_100 (fun b13 H locs w => ?_)
              exact z_reti S w hr hlk dX10_alibi_103 trivial (by rw [← Option.some.inj h])
    · have h := og_t c4 h
      refine lv_iconst (v := -1) S.1 S.2.1 dX10_alibi_17 (by decide) ?_
      exact z_reti S w hr hlk dX10_alibi_18 trivial (by rw [← Option.some.inj h])
set_option maxHeartbeats 4000000 in
set_option maxRecDepth 100000 in
theorem c_X6_remember (l : Launch) (D : va_G) (cs : Nat → ClassId) (ad : Nat → Nat) (F : ZF) (A : ZA) (T : Int64) (q : ZS) (h : f_X6_remember F A T = some q) : zMv l D cs (XWc cs ad 10 11) yX6_remember cX6_remember 1 none rm_X6_remember ([.ref (ad 3)] : List Value) F A T q := by
  refine z_enterv (by decide) (Nat.le_of_ble_eq_true rfl) ?_
  intro p e s m below meth c A0 ls S K w hA hr hlk hl
  have S : CallFix p m c cX6_remember 1 s ([.ref (ad 3)] : List Value).toArray zWs RX6 := S
  have hl : lv_has ls 1 [(0, .ref (ad 3))] := hl
  unfold f_X6_remember at h
  have j30 : ∀ (F : ZF) (A : ZA) (T : Int64), f_X6_remember_30 F A T = some q → ∀ (H : Heap) (locs : List Loc) (ls : Array Slot), lv_has ls 1 [(0, .ref (ad 3))] → ZW D A0 s.heap (XWc cs ad 10 11 F A T) H locs → W p l e rm_X6_remember s m ([.ref (ad 3)] : List Value).toArray below meth c H locs 0 0 (zQv (XWc cs ad 10 11) D A0 below ([.ref (ad 3)] : List Value) s q) (F0 m 30 ls []) := by
    intro F A T h H locs ls hl w
    unfold f_X6_remember_30 at h
    refine lv_aload_n S.1 S.2.1 dX6_remember_30 rfl (lv_at hl 0 rfl) ?_
    refine gX_3_4 S K w w161 dX6_remember_31 ?_
    refine lv_aload_n S.1 S.2.1 dX6_remember_34 rfl (lv_at hl 0 rfl) ?_
    refine gX_3_3 S K w w159 dX6_remember_35 ?_
    refine lv_aload_n S.1 S.2.1 dX6_remember_38 rfl (lv_at hl 0 rfl) ?_
    refine gX_3_2 S K w w157 dX6_remember_39 ?_
    refine lv_bipush (v := 16) S.1 S.2.1 dX6_remember_42 (by decide) ?_
    refine lv_ishl S.1 S.2.1 dX6_remember_44 ?_
    refine lv_aload_n S.1 S.2.1 dX6_remember_45 rfl (lv_at hl 0 rfl) ?_
    refine gX_3_1 S K w w155 dX6_remember_46 ?_
    refine lv_bipush (v := 8) S.1 S.2.1 dX6_remember_49 (by decide) ?_
    refine lv_ishl S.1 S.2.1 dX6_remember_51 ?_
    refine lv_ior S.1 S.2.1 dX6_remember_52 ?_
    refine lv_aload_n S.1 S.2.1 dX6_remember_53 rfl (lv_at hl 0 rfl) ?_
    refine gX_3_0 S K w w152 dX6_remember_54 ?_
    refine lv_ior S.1 S.2.1 dX6_remember_57 ?_
    obtain ⟨g1, h⟩ := og_g h
    refine sX_18 S K w g1 dX6_remember_58 (fun H locs w => ?_)
    refine lv_aload_n S.1 S.2.1 dX6_remember_59 rfl (lv_at hl 0 rfl) ?_
    refine lv_dup S.1 S.2.1 dX6_remember_60 rfl ?_
    refine gX_3_3 S K w w159 dX6_remember_61 ?_
    refine lv_iconst (v := 1) S.1 S.2.1 dX6_remember_64 (by decide) ?_
    refine lv_iadd S.1 S.2.1 dX6_remember_65 ?_
    refine pX_3_3 S K w w159 dX6_remember_66 (fun H locs w => ?_)
    exact z_retv S w hr hlk dX6_remember_69 (Option.some.inj h).symm
  refine lv_aload_n S.1 S.2.1 dX6_remember_0 rfl (lv_at hl 0 rfl) ?_
  refine gX_3_3 S K w w159 dX6_remember_1 ?_
  refine lv_bipush (v := 10) S.1 S.2.1 dX6_remember_4 (by decide) ?_
  refine lv_icmp_lt (tgt := 30) S.1 S.2.1 dX6_remember_6 (by decide) (fun c2 => ?_) (fun c2 => ?_)
  · have h := og_t c2 h
    exact j30 _ _ _ h _ _ _ (lv_sub hl [0] rfl) w
  · have h := og_f c2 h
    refine lv_aload_n S.1 S.2.1 dX6_remember_9 rfl (lv_at hl 0 rfl) ?_
    refine gX_3_4 S K w w161 dX6_remember_10 ?_
    refine lv_iconst (v := 1) S.1 S.2.1 dX6_remember_13 (by decide) ?_
    refine lv_aload_n S.1 S.2.1 dX6_remember_14 rfl (lv_at hl 0 rfl) ?_
    refine gX_3_4 S K w w161 dX6_remember_15 ?_
    refine lv_iconst (v := 0) S.1 S.2.1 dX6_remember_18 (by decide) ?_
    refine lv_bipush (v := 9) S.1 S.2.1 dX6_remember_19 (by decide) ?_
    refine va_copyi S.1 S.2.1 (S.2.2.1.trans hl.1.symm) S.2.2.2.1 (S.2.2.2.2 _ w508) (S.2.2.2.2 _ w510) (S.2.2.2.2 _ w509) (S.2.2.2.2 _ w70) K.1 w.1 w.2.1 w.2.2 18 18 0 0 (f := A 18) (g := A 18) (n0 := 10) (n1 := 10) rfl rfl rfl rfl rfl (by decide) (by decide) (by decide) (by decide) (by decide) (fun _ _ => rfl) (Nat.le_of_ble_eq_true rfl) (Nat.le_of_ble_eq_true rfl) dX6_remember_21 (fun H locs h1 h2 h3 => ?_)
    have w : ZW D A0 s.heap (XWc cs ad 10 11 F (zrw A 18 (va_cpy (A 18) (A 18) ((1 : Int32)).toNatClampNeg ((0 : Int32)).toNatClampNeg ((9 : Int32)).toNatClampNeg)) T) H locs := ⟨h1, h2, h3⟩
    refine lv_aload_n S.1 S.2.1 dX6_remember_24 rfl (lv_at hl 0 rfl) ?_
    refine lv_bipush (v := 9) S.1 S.2.1 dX6_remember_25 (by decide) ?_
    refine pX_3_3 S K w w159 dX6_remember_27 (fun H locs w => ?_)
    exact j30 _ _ _ h _ _ _ (lv_sub hl [0] rfl) w
set_option maxHeartbeats 4000000 in
set_option maxRecDepth 100000 in
theorem c_X10_caseNow (l : Launch) (D : va_G) (cs : Nat → ClassId) (ad : Nat → Nat) (F : ZF) (A : ZA) (T : Int64) (q : (Int32 × ZS)) (h : f_X10_caseNow F A T = some q) : zMi l D cs (XWc cs ad 10 11) yX10_caseNow cX10_caseNow 1 (some .int) rm_X10_caseNow ([.ref (ad 0)] : List Value) F A T q True := by
  refine z_enteri (by decide) (Nat.le_of_ble_eq_true rfl) ?_
  intro p e s m below meth c A0 ls S K w hA hr hlk hl
  have S : CallFix p m c cX10_caseNow 1 s ([.ref (ad 0)] : List Value).toArray zWs RX10 := S
  have hl : lv_has ls 1 [(0, .ref (ad 0))] := hl
  unfold f_X10_caseNow at h
  refine lv_aload_n S.1 S.2.1 dX10_caseNow_0 rfl (lv_at hl 0 rfl) ?_
  obtain ⟨q1, e2, h⟩ := og_b h
  refine z_callVv S K w hA (c_X10_weighNow l D cs ad F A T q1 e2) (cw_X10_111 S.2.2.2.2 ⟨Nat.le_of_ble_eq_true rfl, Nat.le_of_ble_eq_true rfl⟩) (z_recv K w 0 10 rfl rfl) rfl hl.1 rfl (Nat.le_of_ble_eq_true rfl) ⟨Nat.zero_le _, Nat.zero_le _⟩ dX10_caseNow_1 (fun H locs w => ?_)
  refine lv_aload_n S.1 S.2.1 dX10_caseNow_4 rfl (lv_at hl 0 rfl) ?_
  refine gX_0_1 S K w w312 dX10_caseNow_5 ?_
  refine gX_2_3 S K w w130 dX10_caseNow_8 ?_
  exact z_reti S w hr hlk dX10_caseNow_11 trivial (Option.some.inj h).symm
set_option maxHeartbeats 4000000 in
set_option maxRecDepth 100000 in
theorem c_X10_find (l : Launch) (D : va_G) (cs : Nat → ClassId) (ad : Nat → Nat) (F : ZF) (A : ZA) (T : Int64) (a0 a1 : Int32) (q : (Int32 × ZS)) (h : f_X10_find a0 a1 F A T = some q) : zMi l D cs (XWc cs ad 10 11) yX10_find cX10_find 3 (some .int) rm_X10_find ([.ref (ad 0), .int a0, .int a1] : List Value) F A T q True := by
  refine z_enteri (by decide) (Nat.le_of_ble_eq_true rfl) ?_
  intro p e s m below meth c A0 ls S K w hA hr hlk hl
  have S : CallFix p m c cX10_find 3 s ([.ref (ad 0), .int a0, .int a1] : List Value).toArray zWs RX10 := S
  have hl : lv_has ls 3 [(0, .ref (ad 0)), (1, .int a0), (2, .int a1)] := hl
  unfold f_X10_find at h
  refine lv_aload_n S.1 S.2.1 dX10_find_0 rfl (lv_at hl 0 rfl) ?_
  refine lv_iload_n S.1 S.2.1 dX10_find_1 rfl (lv_at hl 1 rfl) ?_
  refine z_callVr S K w hA (c_X10_isFact l D cs ad F A T a0 (f_X10_isFact a0 F A T) rfl) (cw_X10_126 S.2.2.2.2 ⟨Nat.le_of_ble_eq_true rfl, Nat.le_of_ble_eq_true rfl⟩) (z_recv K w 0 10 rfl rfl) rfl hl.1 rfl (Nat.le_of_ble_eq_true rfl) ⟨Nat.zero_le _, Nat.zero_le _⟩ dX10_find_2 (fun b1 H locs w => ?_)
  refine lv_if_eq (tgt := 17) S.1 S.2.1 dX10_find_5 (by decide) (fun c2 => ?_) (fun c2 => ?_)
  · have h := og_t c2 h
    refine lv_iconst (v := -1) S.1 S.2.1 dX10_find_17 (by decide) ?_
    exact z_reti S w hr hlk dX10_find_18 trivial (Option.some.inj h).symm
  · have h := og_f c2 h
    refine lv_iload_n S.1 S.2.1 dX10_find_8 rfl (lv_at hl 2 rfl) ?_
    refine lv_iconst (v := 0) S.1 S.2.1 dX10_find_9 (by decide) ?_
    refine lv_iconst (v := 1) S.1 S.2.1 dX10_find_10 (by decide) ?_
    refine z_callSr S K w hA (c_X10_within l D cs ad F A T a1 (0 : Int32) (1 : Int32) (f_X10_within a1 (0 : Int32) (1 : Int32)) rfl) (cw_X10_90 S.2.2.2.2 ⟨Nat.le_of_ble_eq_true rfl, Nat.le_of_ble_eq_true rfl⟩) rfl hl.1 rfl (Nat.le_of_ble_eq_true rfl) ⟨Nat.zero_le _, Nat.zero_le _⟩ dX10_find_11 (fun b3 H locs w => ?_)
    refine lv_if_ne (tgt := 19) S.1 S.2.1 dX10_find_14 (by decide) (fun c4 => ?_) (fun c4 => ?_)
    · have h := og_f c4 h
      refine lv_aload_n S.1 S.2.1 dX10_find_19 rfl (lv_at hl 0 rfl) ?_
      refine gX_0_2 S K w w314 dX10_find_20 ?_
      refine gX_3_0 S K w w154 dX10_find_23 ?_
      refine lv_iload_n S.1 S.2.1 dX10_find_26 rfl (lv_at hl 1 rfl) ?_
      refine z_callSr S K w hA (c_X10_bit l D cs ad F A T (F 10) a0 (f_X10_bit (F 10) a0) rfl) (cw_X10_138 S.2.2.2.2 ⟨Nat.le_of_ble_eq_true rfl, Nat.le_of_ble_eq_true rfl⟩) rfl hl.1 rfl (Nat.le_of_ble_eq_true rfl) ⟨Nat.zero_le _, Nat.zero_le _⟩ dX10_find_27 (fun b5 H locs w => ?_)
      refine lv_iload_n S.1 S.2.1 dX10_find_30 rfl (lv_at hl 2 rfl) ?_
      refine lv_icmp_ne (tgt := 37) S.1 S.2.1 dX10_find_31 (by decide) (fun c6 => ?_) (fun c6 => ?_)
      · have h := og_f c6 h
        refine lv_aload_n S.1 S.2.1 dX10_find_37 rfl (lv_at hl 0 rfl) ?_
        refine gX_0_2 S K w w314 dX10_find_38 ?_
        obtain ⟨q7, e8, h⟩ := og_b h
        refine z_callVv S K w hA (c_X6_remember l D cs ad F A T q7 e8) (cw_X10_164 S.2.2.2.2 ⟨Nat.le_of_ble_eq_true rfl, Nat.le_of_ble_eq_true rfl⟩) (z_recv K w 3 6 rfl rfl) rfl hl.1 rfl (Nat.le_of_ble_eq_true rfl) ⟨Nat.zero_le _, Nat.zero_le _⟩ dX10_find_41 (fun H locs w => ?_)
        refine lv_aload_n S.1 S.2.1 dX10_find_44 rfl (lv_at hl 0 rfl) ?_
        refine gX_0_2 S K w w314 dX10_find_45 ?_
        refine lv_dup S.1 S.2.1 dX10_find_48 rfl ?_
        refine gX_3_0 S K w w154 dX10_find_49 ?_
        refine lv_iconst (v := 1) S.1 S.2.1 dX10_find_52 (by decide) ?_
        refine lv_iload_n S.1 S.2.1 dX10_find_53 rfl (lv_at hl 1 rfl) ?_
        refine lv_ishl S.1 S.2.1 dX10_find_54 ?_
        refine lv_ixor S.1 S.2.1 dX10_find_55 ?_
        refine pX_3_0 S K w w154 dX10_find_56 (fun H locs w => ?_)
        refine lv_aload_n S.1 S.2.1 dX10_find_59 rfl (lv_at hl 0 rfl) ?_
        obtain ⟨q10, e11, h⟩ := og_b h
        refine z_callVi S K w hA (c_X10_caseNow l D cs ad (upd q7.1 10 ((q7.1 10) ^^^ ((1 : Int32) <<< (a0 &&& 31)))) q7.2.1 q7.2.2 q10 e11) (cw_X10_167 S.2.2.2.2 ⟨Nat.le_of_ble_eq_true rfl, Nat.le_of_ble_eq_true rfl⟩) (z_recv K w 0 10 rfl rfl) rfl hl.1 rfl (Nat.le_of_ble_eq_true rfl) ⟨Nat.zero_le _, Nat.zero_le _⟩ dX10_find_60 (fun b9 H locs w => ?_)
        exact z_reti S w hr hlk dX10_find_63 trivial (Option.some.inj h).symm
      · have h := og_t c6 h
        refine lv_bipush (v := -2) S.1 S.2.1 dX10_find_34 (by decide) ?_
        exact z_reti S w hr hlk dX10_find_36 trivial (Option.some.inj h).symm
    · have h := og_t c4 h
      refine lv_iconst (v := -1) S.1 S.2.1 dX10_find_17 (by decide) ?_
      exact z_reti S w hr hlk dX10_find_18 trivial (Option.some.inj h).symm
set_option maxHeartbeats 4000000 in
set_option maxRecDepth 100000 in
theorem c_X10_hear (l : Launch) (D : va_G) (cs : Nat → ClassId) (ad : Nat → Nat) (F : ZF) (A : ZA) (T : Int64) (a0 a1 : Int32) (q : (Int32 × ZS)) (h : f_X10_hear a0 a1 F A T = some q) : zMi l D cs (XWc cs ad 10 11) yX10_hear cX10_hear 3 (some .int) rm_X10_hear ([.ref (ad 0), .int a0, .int a1] : List Value) F A T q True := by
  refine z_enteri (by decide) (Nat.le_of_ble_eq_true rfl) ?_
  intro p e s m below meth c A0 ls S K w hA hr hlk hl
  have S : CallFix p m c cX10_hear 3 s ([.ref (ad 0), .int a0, .int a1] : List Value).toArray zWs RX10 := S
  have hl : lv_has ls 3 [(0, .ref (ad 0)), (1, .int a0), (2, .int a1)] := hl
  unfold f_X10_hear at h
  refine lv_aload_n S.1 S.2.1 dX10_hear_0 rfl (lv_at hl 0 rfl) ?_
  refine lv_iload_n S.1 S.2.1 dX10_hear_1 rfl (lv_at hl 1 rfl) ?_
  refine z_callVr S K w hA (c_X10_isAlibi l D cs ad F A T a0 (f_X10_isAlibi a0 F A T) rfl) (cw_X10_146 S.2.2.2.2 ⟨Nat.le_of_ble_eq_true rfl, Nat.le_of_ble_eq_true rfl⟩) (z_recv K w 0 10 rfl rfl) rfl hl.1 rfl (Nat.le_of_ble_eq_true rfl) ⟨Nat.zero_le _, Nat.zero_le _⟩ dX10_hear_2 (fun b1 H locs w => ?_)
  refine lv_if_eq (tgt := 17) S.1 S.2.1 dX10_hear_5 (by decide) (fun c2 => ?_) (fun c2 => ?_)
  · have h := og_t c2 h
    refine lv_iconst (v := -1) S.1 S.2.1 dX10_hear_17 (by decide) ?_
    exact z_reti S w hr hlk dX10_hear_18 trivial (Option.some.inj h).symm
  · have h := og_f c2 h
    refine lv_iload_n S.1 S.2.1 dX10_hear_8 rfl (lv_at hl 2 rfl) ?_
    refine lv_iconst (v := 0) S.1 S.2.1 dX10_hear_9 (by decide) ?_
    refine lv_iconst (v := 1) S.1 S.2.1 dX10_hear_10 (by decide) ?_
    refine z_callSr S K w hA (c_X10_within l D cs ad F A T a1 (0 : Int32) (1 : Int32) (f_X10_within a1 (0 : Int32) (1 : Int32)) rfl) (cw_X10_90 S.2.2.2.2 ⟨Nat.le_of_ble_eq_true rfl, Nat.le_of_ble_eq_true rfl⟩) rfl hl.1 rfl (Nat.le_of_ble_eq_true rfl) ⟨Nat.zero_le _, Nat.zero_le _⟩ dX10_hear_11 (fun b3 H locs w => ?_)
    refine lv_if_ne (tgt := 19) S.1 S.2.1 dX10_hear_14 (by decide) (fun c4 => ?_) (fun c4 => ?_)
    · have h := og_f c4 h
      refine lv_aload_n S.1 S.2.1 dX10_hear_19 rfl (lv_at hl 0 rfl) ?_
      refine gX_0_2 S K w w314 dX10_hear_20 ?_
      refine gX_3_1 S K w w156 dX10_hear_23 ?_
      refine lv_iload_n S.1 S.2.1 dX10_hear_26 rfl (lv_at hl 1 rfl) ?_
      refine z_callSr S K w hA (c_X10_bit l D cs ad F A T (F 11) a0 (f_X10_bit (F 11) a0) rfl) (cw_X10_138 S.2.2.2.2 ⟨Nat.le_of_ble_eq_true rfl, Nat.le_of_ble_eq_true rfl⟩) rfl hl.1 rfl (Nat.le_of_ble_eq_true rfl) ⟨Nat.zero_le _, Nat.zero_le _⟩ dX10_hear_27 (fun b5 H locs w => ?_)
      refine lv_iload_n S.1 S.2.1 dX10_hear_30 rfl (lv_at hl 2 rfl) ?_
      refine lv_icmp_ne (tgt := 37) S.1 S.2.1 dX10_hear_31 (by decide) (fun c6 => ?_) (fun c6 => ?_)
      · have h := og_f c6 h
        refine lv_aload_n S.1 S.2.1 dX10_hear_37 rfl (lv_at hl 0 rfl) ?_
        refine gX_0_2 S K w w314 dX10_hear_38 ?_
        obtain ⟨q7, e8, h⟩ := og_b h
        refine z_callVv S K w hA (c_X6_remember l D cs ad F A T q7 e8) (cw_X10_164 S.2.2.2.2 ⟨Nat.le_of_ble_eq_true rfl, Nat.le_of_ble_eq_true rfl⟩) (z_recv K w 3 6 rfl rfl) rfl hl.1 rfl (Nat.le_of_ble_eq_true rfl) ⟨Nat.zero_le _, Nat.zero_le _⟩ dX10_hear_41 (fun H locs w => ?_)
        refine lv_aload_n S.1 S.2.1 dX10_hear_44 rfl (lv_at hl 0 rfl) ?_
        refine gX_0_2 S K w w314 dX10_hear_45 ?_
        refine lv_dup S.1 S.2.1 dX10_hear_48 rfl ?_
        refine gX_3_1 S K w w156 dX10_hear_49 ?_
        refine lv_iconst (v := 1) S.1 S.2.1 dX10_hear_52 (by decide) ?_
        refine lv_iload_n S.1 S.2.1 dX10_hear_53 rfl (lv_at hl 1 rfl) ?_
        refine lv_ishl S.1 S.2.1 dX10_hear_54 ?_
        refine lv_ixor S.1 S.2.1 dX10_hear_55 ?_
        refine pX_3_1 S K w w156 dX10_hear_56 (fun H locs w => ?_)
        refine lv_aload_n S.1 S.2.1 dX10_hear_59 rfl (lv_at hl 0 rfl) ?_
        obtain ⟨q10, e11, h⟩ := og_b h
        refine z_callVi S K w hA (c_X10_caseNow l D cs ad (upd q7.1 11 ((q7.1 11) ^^^ ((1 : Int32) <<< (a0 &&& 31)))) q7.2.1 q7.2.2 q10 e11) (cw_X10_167 S.2.2.2.2 ⟨Nat.le_of_ble_eq_true rfl, Nat.le_of_ble_eq_true rfl⟩) (z_recv K w 0 10 rfl rfl) rfl hl.1 rfl (Nat.le_of_ble_eq_true rfl) ⟨Nat.zero_le _, Nat.zero_le _⟩ dX10_hear_60 (fun b9 H locs w => ?_)
        exact z_reti S w hr hlk dX10_hear_63 trivial (Option.some.inj h).symm
      · have h := og_t c6 h
        refine lv_bipush (v := -2) S.1 S.2.1 dX10_hear_34 (by decide) ?_
        exact z_reti S w hr hlk dX10_hear_36 trivial (Option.some.inj h).symm
    · have h := og_t c4 h
      refine lv_iconst (v := -1) S.1 S.2.1 dX10_hear_17 (by decide) ?_
      exact z_reti S w hr hlk dX10_hear_18 trivial (Option.some.inj h).symm
set_option maxHeartbeats 4000000 in
set_option maxRecDepth 100000 in
theorem c_X10_days (l : Launch) (D : va_G) (cs : Nat → ClassId) (ad : Nat → Nat) (F : ZF) (A : ZA) (T : Int64) (a0 : Int32) (q : (Int32 × ZS)) (h : f_X10_days a0 F A T = some q) : zMi l D cs (XWc cs ad 10 11) yX10_days cX10_days 3 (some .int) rm_X10_days ([.ref (ad 0), .int a0] : List Value) F A T q True := by
  refine z_enteri (by decide) (Nat.le_of_ble_eq_true rfl) ?_
  intro p e s m below meth c A0 ls S K w hA hr hlk hl
  have S : CallFix p m c cX10_days 3 s ([.ref (ad 0), .int a0] : List Value).toArray zWs RX10 := S
  have hl : lv_has ls 3 [(0, .ref (ad 0)), (1, .int a0)] := hl
  unfold f_X10_days at h
  refine lv_iload_n S.1 S.2.1 dX10_days_0 rfl (lv_at hl 1 rfl) ?_
  refine lv_iconst (v := 0) S.1 S.2.1 dX10_days_1 (by decide) ?_
  refine lv_bipush (v := 60) S.1 S.2.1 dX10_days_2 (by decide) ?_
  refine z_callSr S K w hA (c_X10_within l D cs ad F A T a0 (0 : Int32) (60 : Int32) (f_X10_within a0 (0 : Int32) (60 : Int32)) rfl) (cw_X10_90 S.2.2.2.2 ⟨Nat.le_of_ble_eq_true rfl, Nat.le_of_ble_eq_true rfl⟩) rfl hl.1 rfl (Nat.le_of_ble_eq_true rfl) ⟨Nat.zero_le _, Nat.zero_le _⟩ dX10_days_4 (fun b1 H locs w => ?_)
  refine lv_if_ne (tgt := 12) S.1 S.2.1 dX10_days_7 (by decide) (fun c2 => ?_) (fun c2 => ?_)
  · have h := og_f c2 h
    refine lv_aload_n S.1 S.2.1 dX10_days_12 rfl (lv_at hl 0 rfl) ?_
    refine gX_0_2 S K w w314 dX10_days_13 ?_
    refine gX_3_2 S K w w158 dX10_days_16 ?_
    refine lv_iload_n S.1 S.2.1 dX10_days_19 rfl (lv_at hl 1 rfl) ?_
    refine lv_icmp_ne (tgt := 26) S.1 S.2.1 dX10_days_20 (by decide) (fun c3 => ?_) (fun c3 => ?_)
    · have h := og_f c3 h
      refine lv_aload_n S.1 S.2.1 dX10_days_26 rfl (lv_at hl 0 rfl) ?_
      refine gX_0_2 S K w w314 dX10_days_27 ?_
      refine gX_3_2 S K w w158 dX10_days_30 ?_
      refine lv_istore_n (lv' := [(2, .int (F 12)), (0, .ref (ad 0)), (1, .int a0)]) S.1 S.2.1 dX10_days_33 rfl hl (by decide) rfl (fun ls hl => ?_)
      refine lv_aload_n S.1 S.2.1 dX10_days_34 rfl (lv_at hl 1 rfl) ?_
      refine gX_0_2 S K w w314 dX10_days_35 ?_
      obtain ⟨q4, e5, h⟩ := og_b h
      refine z_callVv S K w hA (c_X6_remember l D cs ad F A T q4 e5) (cw_X10_164 S.2.2.2.2 ⟨Nat.le_of_ble_eq_true rfl, Nat.le_of_ble_eq_true rfl⟩) (z_recv K w 3 6 rfl rfl) rfl hl.1 rfl (Nat.le_of_ble_eq_true rfl) ⟨Nat.zero_le _, Nat.zero_le _⟩ dX10_days_38 (fun H locs w => ?_)
      refine lv_aload_n S.1 S.2.1 dX10_days_41 rfl (lv_at hl 1 rfl) ?_
      refine gX_0_2 S K w w314 dX10_days_42 ?_
      refine lv_iload_n S.1 S.2.1 dX10_days_45 rfl (lv_at hl 2 rfl) ?_
      refine pX_3_2 S K w w158 dX10_days_46 (fun H locs w => ?_)
      refine lv_iload_n S.1 S.2.1 dX10_days_49 rfl (lv_at hl 0 rfl) ?_
      exact z_reti S w hr hlk dX10_days_50 trivial (Option.some.inj h).symm
    · have h := og_t c3 h
      refine lv_bipush (v := -2) S.1 S.2.1 dX10_days_23 (by decide) ?_
      exact z_reti S w hr hlk dX10_days_25 trivial (Option.some.inj h).symm
  · have h := og_t c2 h
    refine lv_iconst (v := -1) S.1 S.2.1 dX10_days_10 (by decide) ?_
    exact z_reti S w hr hlk dX10_days_11 trivial (Option.some.inj h).symm
set_option maxHeartbeats 4000000 in
set_option maxRecDepth 100000 in
theorem c_X6_stepBack (l : Launch) (D : va_G) (cs : Nat → ClassId) (ad : Nat → Nat) (F : ZF) (A : ZA) (T : Int64) (q : ZS) (h : f_X6_stepBack F A T = some q) : zMv l D cs (XWc cs ad 10 11) yX6_stepBack cX6_stepBack 1 none rm_X6_stepBack ([.ref (ad 3)] : List Value) F A T q := by
  refine z_enterv (by decide) (Nat.le_of_ble_eq_true rfl) ?_
  intro p e s m below meth c A0 ls S K w hA hr hlk hl
  have S : CallFix p m c cX6_stepBack 1 s ([.ref (ad 3)] : List Value).toArray zWs RX6 := S
  have hl : lv_has ls 1 [(0, .ref (ad 3))] := hl
  unfold f_X6_stepBack at h
  refine lv_aload_n S.1 S.2.1 dX6_stepBack_0 rfl (lv_at hl 0 rfl) ?_
  refine lv_dup S.1 S.2.1 dX6_stepBack_1 rfl ?_
  refine gX_3_3 S K w w159 dX6_stepBack_2 ?_
  refine lv_iconst (v := 1) S.1 S.2.1 dX6_stepBack_5 (by decide) ?_
  refine lv_isub S.1 S.2.1 dX6_stepBack_6 ?_
  refine pX_3_3 S K w w159 dX6_stepBack_7 (fun H locs w => ?_)
  refine lv_aload_n S.1 S.2.1 dX6_stepBack_10 rfl (lv_at hl 0 rfl) ?_
  refine lv_aload_n S.1 S.2.1 dX6_stepBack_11 rfl (lv_at hl 0 rfl) ?_
  refine gX_3_4 S K w w161 dX6_stepBack_12 ?_
  refine lv_aload_n S.1 S.2.1 dX6_stepBack_15 rfl (lv_at hl 0 rfl) ?_
  refine gX_3_3 S K w w159 dX6_stepBack_16 ?_
  obtain ⟨g1, h⟩ := og_g h
  refine aX_18 S K w g1 dX6_stepBack_19 ?_
  refine lv_sipush (v := 255) S.1 S.2.1 dX6_stepBack_20 (by decide) ?_
  refine lv_iand S.1 S.2.1 dX6_stepBack_23 ?_
  refine pX_3_0 S K w w152 dX6_stepBack_24 (fun H locs w => ?_)
  refine lv_aload_n S.1 S.2.1 dX6_stepBack_27 rfl (lv_at hl 0 rfl) ?_
  refine lv_aload_n S.1 S.2.1 dX6_stepBack_28 rfl (lv_at hl 0 rfl) ?_
  refine gX_3_4 S K w w161 dX6_stepBack_29 ?_
  refine lv_aload_n S.1 S.2.1 dX6_stepBack_32 rfl (lv_at hl 0 rfl) ?_
  refine gX_3_3 S K w w159 dX6_stepBack_33 ?_
  obtain ⟨g2, h⟩ := og_g h
  refine aX_18 S K w g2 dX6_stepBack_36 ?_
  refine lv_bipush (v := 8) S.1 S.2.1 dX6_stepBack_37 (by decide) ?_
  refine lv_ishr S.1 S.2.1 dX6_stepBack_39 ?_
  refine lv_sipush (v := 255) S.1 S.2.1 dX6_stepBack_40 (by decide) ?_
  refine lv_iand S.1 S.2.1 dX6_stepBack_43 ?_
  refine pX_3_1 S K w w155 dX6_stepBack_44 (fun H locs w => ?_)
  refine lv_aload_n S.1 S.2.1 dX6_stepBack_47 rfl (lv_at hl 0 rfl) ?_
  refine lv_aload_n S.1 S.2.1 dX6_stepBack_48 rfl (lv_at hl 0 rfl) ?_
  refine gX_3_4 S K w w161 dX6_stepBack_49 ?_
  refine lv_aload_n S.1 S.2.1 dX6_stepBack_52 rfl (lv_at hl 0 rfl) ?_
  refine gX_3_3 S K w w159 dX6_stepBack_53 ?_
  obtain ⟨g3, h⟩ := og_g h
  refine aX_18 S K w g3 dX6_stepBack_56 ?_
  refine lv_bipush (v := 16) S.1 S.2.1 dX6_stepBack_57 (by decide) ?_
  refine lv_ishr S.1 S.2.1 dX6_stepBack_59 ?_
  refine pX_3_2 S K w w157 dX6_stepBack_60 (fun H locs w => ?_)
  exact z_retv S w hr hlk dX6_stepBack_63 (Option.some.inj h).symm
set_option maxHeartbeats 4000000 in
set_option maxRecDepth 100000 in
theorem c_X10_undo (l : Launch) (D : va_G) (cs : Nat → ClassId) (ad : Nat → Nat) (F : ZF) (A : ZA) (T : Int64) (q : (Int32 × ZS)) (h : f_X10_undo F A T = some q) : zMi l D cs (XWc cs ad 10 11) yX10_undo cX10_undo 1 (some .int) rm_X10_undo ([.ref (ad 0)] : List Value) F A T q True := by
  refine z_enteri (by decide) (Nat.le_of_ble_eq_true rfl) ?_
  intro p e s m below meth c A0 ls S K w hA hr hlk hl
  have S : CallFix p m c cX10_undo 1 s ([.ref (ad 0)] : List Value).toArray zWs RX10 := S
  have hl : lv_has ls 1 [(0, .ref (ad 0))] := hl
  unfold f_X10_undo at h
  refine lv_aload_n S.1 S.2.1 dX10_undo_0 rfl (lv_at hl 0 rfl) ?_
  refine gX_0_2 S K w w314 dX10_undo_1 ?_
  refine gX_3_3 S K w w160 dX10_undo_4 ?_
  refine lv_if_ne (tgt := 13) S.1 S.2.1 dX10_undo_7 (by decide) (fun c1 => ?_) (fun c1 => ?_)
  · have h := og_f c1 h
    refine lv_aload_n S.1 S.2.1 dX10_undo_13 rfl (lv_at hl 0 rfl) ?_
    refine gX_0_2 S K w w314 dX10_undo_14 ?_
    obtain ⟨q2, e3, h⟩ := og_b h
    refine z_callVv S K w hA (c_X6_stepBack l D cs ad F A T q2 e3) (cw_X10_175 S.2.2.2.2 ⟨Nat.le_of_ble_eq_true rfl, Nat.le_of_ble_eq_true rfl⟩) (z_recv K w 3 6 rfl rfl) rfl hl.1 rfl (Nat.le_of_ble_eq_true rfl) ⟨Nat.zero_le _, Nat.zero_le _⟩ dX10_undo_17 (fun H locs w => ?_)
    refine lv_aload_n S.1 S.2.1 dX10_undo_20 rfl (lv_at hl 0 rfl) ?_
    refine gX_0_2 S K w w314 dX10_undo_21 ?_
    refine gX_3_3 S K w w160 dX10_undo_24 ?_
    exact z_reti S w hr hlk dX10_undo_27 trivial (Option.some.inj h).symm
  · have h := og_t c1 h
    refine lv_bipush (v := -2) S.1 S.2.1 dX10_undo_10 (by decide) ?_
    exact z_reti S w hr hlk dX10_undo_12 trivial (Option.some.inj h).symm
set_option maxHeartbeats 4000000 in
set_option maxRecDepth 100000 in
theorem c_X10_commonDivisor (l : Launch) (D : va_G) (cs : Nat → ClassId) (ad : Nat → Nat) (F : ZF) (A : ZA) (T : Int64) (a0 a1 : Int32) (q : Int32) (h : f_X10_commonDivisor a0 a1 = some q) : zMi l D cs (XWc cs ad 10 11) yX10_commonDivisor cX10_commonDivisor 6 (some .int) rm_X10_commonDivisor ([.int a0, .int a1] : List Value) F A T ((q, F, A, T) : Int32 × ZS) True := by
  refine z_enteri (by decide) (Nat.le_of_ble_eq_true rfl) ?_
  intro p e s m below meth c A0 ls S K w hA hr hlk hl
  have S : CallFix p m c cX10_commonDivisor 6 s ([.int a0, .int a1] : List Value).toArray zWs RX10 := S
  have hl : lv_has ls 6 [(0, .int a0), (1, .int a1)] := hl
  unfold f_X10_commonDivisor at h
  have j7 : ∀ (n7 : Nat) (x2 x3 x4 : Int32), f_X10_commonDivisor_7 n7 x2 x3 x4 = some q → ∀ (H : Heap) (locs : List Loc) (ls : Array Slot), lv_has ls 6 [(2, .int x2), (3, .int x3), (4, .int x4)] → ZW D A0 s.heap (XWc cs ad 10 11 F A T) H locs → W p l e rm_X10_commonDivisor s m ([.int a0, .int a1] : List Value).toArray below meth c H locs 0 0 (zQi (XWc cs ad 10 11) D A0 below ([.int a0, .int a1] : List Value) s ((q, F, A, T) : Int32 × ZS) True) (F0 m 7 ls []) := by
    intro n7
    induction n7 with
    | zero =>
      intro x2 x3 x4 h H locs ls hl w
      have h : (none : Option Int32) = some q := h
      cases h
    | succ n7 ih7 =>
      intro x2 x3 x4 h H locs ls hl w
      rw [f_X10_commonDivisor_7_s] at h
      have j34 : ∀ (x2 : Int32), f_X10_commonDivisor_34 x2 = some q → ∀ (H : Heap) (locs : List Loc) (ls : Array Slot), lv_has ls 6 [(2, .int x2)] → ZW D A0 s.heap (XWc cs ad 10 11 F A T) H locs → W p l e rm_X10_commonDivisor s m ([.int a0, .int a1] : List Value).toArray below meth c H locs 0 0 (zQi (XWc cs ad 10 11) D A0 below ([.int a0, .int a1] : List Value) s ((q, F, A, T) : Int32 × ZS) True) (F0 m 34 ls []) := by
        intro x2 h H locs ls hl w
        unfold f_X10_commonDivisor_34 at h
        refine lv_iconst (v := 1) S.1 S.2.1 dX10_commonDivisor_34 (by decide) ?_
        refine lv_iload_n S.1 S.2.1 dX10_commonDivisor_35 rfl (lv_at hl 0 rfl) ?_
        refine va_mmax S.1 S.2.1 (S.2.2.1.trans hl.1.symm) S.2.2.2.1 (S.2.2.2.2 _ w538) (S.2.2.2.2 _ w468) (S.2.2.2.2 _ w68) (S.2.2.2.2 _ w469) (Nat.le_of_ble_eq_true rfl) (Nat.le_of_ble_eq_true rfl) (Nat.zero_le _) (Nat.zero_le _) dX10_commonDivisor_36 ?_
        exact z_reti S w hr hlk dX10_commonDivisor_39 trivial (by rw [← Option.some.inj h])
      refine lv_iload S.1 S.2.1 dX10_commonDivisor_7 (lv_at hl 2 rfl) ?_
      refine lv_bipush (v := 64) S.1 S.2.1 dX10_commonDivisor_9 (by decide) ?_
      refine lv_icmp_ge (tgt := 34) S.1 S.2.1 dX10_commonDivisor_11 (by decide) (fun c1 => ?_) (fun c1 => ?_)
      · have h := og_t c1 h
        exact j34 _ h _ _ _ (lv_sub hl [0] rfl) w
      · have h := og_f c1 h
        refine lv_iload_n S.1 S.2.1 dX10_commonDivisor_14 rfl (lv_at hl 1 rfl) ?_
        refine lv_if_eq (tgt := 34) S.1 S.2.1 dX10_commonDivisor_15 (by decide) (fun c2 => ?_) (fun c2 => ?_)
        · have h := og_t c2 h
          exact j34 _ h _ _ _ (lv_sub hl [0] rfl) w
        · have h := og_f c2 h
          refine lv_iload_n S.1 S.2.1 dX10_commonDivisor_18 rfl (lv_at hl 0 rfl) ?_
          refine lv_iload_n S.1 S.2.1 dX10_commonDivisor_19 rfl (lv_at hl 1 rfl) ?_
          obtain ⟨g3, h⟩ := og_d h
          refine lv_irem S.1 S.2.1 dX10_commonDivisor_20 g3 ?_
          refine lv_istore (lv' := [(5, .int (x2 - x2 / x3 * x3)), (2, .int x2), (3, .int x3), (4, .int x4)]) S.1 S.2.1 dX10_commonDivisor_21 hl (by decide) rfl (fun ls hl => ?_)
          refine lv_iload_n S.1 S.2.1 dX10_commonDivisor_23 rfl (lv_at hl 2 rfl) ?_
          refine lv_istore_n (lv' := [(2, .int x3), (5, .int (x2 - x2 / x3 * x3)), (3, .int x3), (4, .int x4)]) S.1 S.2.1 dX10_commonDivisor_24 rfl hl (by decide) rfl (fun ls hl => ?_)
          refine lv_iload S.1 S.2.1 dX10_commonDivisor_25 (lv_at hl 1 rfl) ?_
          refine lv_istore_n (lv' := [(3, .int (x2 - x2 / x3 * x3)), (2, .int x3), (5, .int (x2 - x2 / x3 * x3)), (4, .int x4)]) S.1 S.2.1 dX10_commonDivisor_27 rfl hl (by decide) rfl (fun ls hl => ?_)
          refine lv_iinc (v := (x4 + (1 : Int32))) (lv' := [(4, .int (x4 + (1 : Int32))), (3, .int (x2 - x2 / x3 * x3)), (2, .int x3), (5, .int (x2 - x2 / x3 * x3))]) S.1 S.2.1 dX10_commonDivisor_28 hl (k := 3) rfl rfl (by decide) rfl (fun ls hl => ?_)
          refine lv_goto (tgt := 7) S.1 S.2.1 dX10_commonDivisor_31 (by decide) ?_
          exact ih7 _ _ _ h _ _ _ (lv_sub hl [2, 1, 0] rfl) w
  refine lv_iload_n S.1 S.2.1 dX10_commonDivisor_0 rfl (lv_at hl 0 rfl) ?_
  refine lv_istore_n (lv' := [(2, .int a0), (0, .int a0), (1, .int a1)]) S.1 S.2.1 dX10_commonDivisor_1 rfl hl (by decide) rfl (fun ls hl => ?_)
  refine lv_iload_n S.1 S.2.1 dX10_commonDivisor_2 rfl (lv_at hl 2 rfl) ?_
  refine lv_istore_n (lv' := [(3, .int a1), (2, .int a0), (0, .int a0), (1, .int a1)]) S.1 S.2.1 dX10_commonDivisor_3 rfl hl (by decide) rfl (fun ls hl => ?_)
  refine lv_iconst (v := 0) S.1 S.2.1 dX10_commonDivisor_4 (by decide) ?_
  refine lv_istore (lv' := [(4, .int (0 : Int32)), (3, .int a1), (2, .int a0), (0, .int a0), (1, .int a1)]) S.1 S.2.1 dX10_commonDivisor_5 hl (by decide) rfl (fun ls hl => ?_)
  exact j7 1000 _ _ _ h _ _ _ (lv_sub hl [2, 1, 0] rfl) w
set_option maxHeartbeats 4000000 in
set_option maxRecDepth 100000 in
theorem c_X10_share (l : Launch) (D : va_G) (cs : Nat → ClassId) (ad : Nat → Nat) (F : ZF) (A : ZA) (T : Int64) (a0 a1 : Int32) (q : (Int32 × ZS)) (h : f_X10_share a0 a1 F A T = some q) : zMi l D cs (XWc cs ad 10 11) yX10_share cX10_share 4 (some .int) rm_X10_share ([.ref (ad 0), .int a0, .int a1] : List Value) F A T q True := by
  refine z_enteri (by decide) (Nat.le_of_ble_eq_true rfl) ?_
  intro p e s m below meth c A0 ls S K w hA hr hlk hl
  have S : CallFix p m c cX10_share 4 s ([.ref (ad 0), .int a0, .int a1] : List Value).toArray zWs RX10 := S
  have hl : lv_has ls 4 [(0, .ref (ad 0)), (1, .int a0), (2, .int a1)] := hl
  unfold f_X10_share at h
  have j59 : ∀ (x1 y0 : Int32) (F : ZF) (A : ZA) (T : Int64), f_X10_share_59 x1 y0 F A T = some q → ∀ (H : Heap) (locs : List Loc) (ls : Array Slot), lv_has ls 4 [(0, .ref (ad 0)), (1, .int x1)] → ZW D A0 s.heap (XWc cs ad 10 11 F A T) H locs → W p l e rm_X10_share s m ([.ref (ad 0), .int a0, .int a1] : List Value).toArray below meth c H locs 0 0 (zQi (XWc cs ad 10 11) D A0 below ([.ref (ad 0), .int a0, .int a1] : List Value) s q True) (F0 m 59 ls [.int y0]) := by
    intro x1 y0 F A T h H locs ls hl w
    unfold f_X10_share_59 at h
    refine lv_istore_n (lv' := [(3, .int y0), (0, .ref (ad 0)), (1, .int x1)]) S.1 S.2.1 dX10_share_59 rfl hl (by decide) rfl (fun ls hl => ?_)
    refine lv_iload_n S.1 S.2.1 dX10_share_60 rfl (lv_at hl 0 rfl) ?_
    refine lv_aload_n S.1 S.2.1 dX10_share_61 rfl (lv_at hl 1 rfl) ?_
    refine gX_0_1 S K w w312 dX10_share_62 ?_
    refine gX_2_3 S K w w130 dX10_share_65 ?_
    refine lv_aload_n S.1 S.2.1 dX10_share_68 rfl (lv_at hl 1 rfl) ?_
    refine gX_0_1 S K w w312 dX10_share_69 ?_
    refine gX_2_0 S K w w124 dX10_share_72 ?_
    refine lv_iload_n S.1 S.2.1 dX10_share_75 rfl (lv_at hl 2 rfl) ?_
    obtain ⟨g1, h⟩ := og_g h
    refine aX_14 S K w g1 dX10_share_76 ?_
    obtain ⟨q3, e4, h⟩ := og_b h
    refine z_callSr S K w hA (c_X10_commonDivisor l D cs ad F A T (F 8) (A 14 (x1).toNatClampNeg) q3 e4) (cw_X10_181 S.2.2.2.2 ⟨Nat.le_of_ble_eq_true rfl, Nat.le_of_ble_eq_true rfl⟩) rfl hl.1 rfl (Nat.le_of_ble_eq_true rfl) ⟨Nat.zero_le _, Nat.zero_le _⟩ dX10_share_77 (fun b2 H locs w => ?_)
    obtain ⟨g5, h⟩ := og_d h
    refine lv_idiv S.1 S.2.1 dX10_share_80 g5 ?_
    exact z_reti S w hr hlk dX10_share_81 trivial (Option.some.inj h).symm
  refine lv_aload_n S.1 S.2.1 dX10_share_0 rfl (lv_at hl 0 rfl) ?_
  refine lv_iload_n S.1 S.2.1 dX10_share_1 rfl (lv_at hl 1 rfl) ?_
  refine z_callVr S K w hA (c_X10_isSuspect l D cs ad F A T a0 (f_X10_isSuspect a0 F A T) rfl) (cw_X10_107 S.2.2.2.2 ⟨Nat.le_of_ble_eq_true rfl, Nat.le_of_ble_eq_true rfl⟩) (z_recv K w 0 10 rfl rfl) rfl hl.1 rfl (Nat.le_of_ble_eq_true rfl) ⟨Nat.zero_le _, Nat.zero_le _⟩ dX10_share_2 (fun b6 H locs w => ?_)
  refine lv_if_eq (tgt := 17) S.1 S.2.1 dX10_share_5 (by decide) (fun c7 => ?_) (fun c7 => ?_)
  · have h := og_t c7 h
    refine lv_iconst (v := -1) S.1 S.2.1 dX10_share_17 (by decide) ?_
    exact z_reti S w hr hlk dX10_share_18 trivial (Option.some.inj h).symm
  · have h := og_f c7 h
    refine lv_iload_n S.1 S.2.1 dX10_share_8 rfl (lv_at hl 2 rfl) ?_
    refine lv_iconst (v := 0) S.1 S.2.1 dX10_share_9 (by decide) ?_
    refine lv_iconst (v := 1) S.1 S.2.1 dX10_share_10 (by decide) ?_
    refine z_callSr S K w hA (c_X10_within l D cs ad F A T a1 (0 : Int32) (1 : Int32) (f_X10_within a1 (0 : Int32) (1 : Int32)) rfl) (cw_X10_90 S.2.2.2.2 ⟨Nat.le_of_ble_eq_true rfl, Nat.le_of_ble_eq_true rfl⟩) rfl hl.1 rfl (Nat.le_of_ble_eq_true rfl) ⟨Nat.zero_le _, Nat.zero_le _⟩ dX10_share_11 (fun b8 H locs w => ?_)
    refine lv_if_ne (tgt := 19) S.1 S.2.1 dX10_share_14 (by decide) (fun c9 => ?_) (fun c9 => ?_)
    · have h := og_f c9 h
      refine lv_aload_n S.1 S.2.1 dX10_share_19 rfl (lv_at hl 0 rfl) ?_
      obtain ⟨q10, e11, h⟩ := og_b h
      refine z_callVv S K w hA (c_X10_weighNow l D cs ad F A T q10 e11) (cw_X10_111 S.2.2.2.2 ⟨Nat.le_of_ble_eq_true rfl, Nat.le_of_ble_eq_true rfl⟩) (z_recv K w 0 10 rfl rfl) rfl hl.1 rfl (Nat.le_of_ble_eq_true rfl) ⟨Nat.zero_le _, Nat.zero_le _⟩ dX10_share_20 (fun H locs w => ?_)
      refine lv_aload_n S.1 S.2.1 dX10_share_23 rfl (lv_at hl 0 rfl) ?_
      refine gX_0_1 S K w w312 dX10_share_24 ?_
      refine gX_2_3 S K w w130 dX10_share_27 ?_
      refine lv_if_ne (tgt := 36) S.1 S.2.1 dX10_share_30 (by decide) (fun c12 => ?_) (fun c12 => ?_)
      · have h := og_f c12 h
        refine lv_iload_n S.1 S.2.1 dX10_share_36 rfl (lv_at hl 2 rfl) ?_
        refine lv_if_ne (tgt := 52) S.1 S.2.1 dX10_share_37 (by decide) (fun c13 => ?_) (fun c13 => ?_)
        · have h := og_f c13 h
          refine lv_aload_n S.1 S.2.1 dX10_share_52 rfl (lv_at hl 0 rfl) ?_
          refine gX_0_1 S K w w312 dX10_share_53 ?_
          refine gX_2_3 S K w w130 dX10_share_56 ?_
          exact j59 _ _ _ _ _ h _ _ _ (lv_sub hl [0, 1] rfl) w
        · have h := og_t c13 h
          refine lv_aload_n S.1 S.2.1 dX10_share_40 rfl (lv_at hl 0 rfl) ?_
          refine gX_0_1 S K w w312 dX10_share_41 ?_
          refine gX_2_0 S K w w124 dX10_share_44 ?_
          refine lv_iload_n S.1 S.2.1 dX10_share_47 rfl (lv_at hl 1 rfl) ?_
          obtain ⟨g14, h⟩ := og_g h
          refine aX_14 S K w g14 dX10_share_48 ?_
          refine lv_goto (tgt := 59) S.1 S.2.1 dX10_share_49 (by decide) ?_
          exact j59 _ _ _ _ _ h _ _ _ (lv_sub hl [0, 1] rfl) w
      · have h := og_t c12 h
        refine lv_bipush (v := -2) S.1 S.2.1 dX10_share_33 (by decide) ?_
        exact z_reti S w hr hlk dX10_share_35 trivial (Option.some.inj h).symm
    · have h := og_t c9 h
      refine lv_iconst (v := -1) S.1 S.2.1 dX10_share_17 (by decide) ?_
      exact z_reti S w hr hlk dX10_share_18 trivial (Option.some.inj h).symm
set_option maxHeartbeats 4000000 in
set_option maxRecDepth 100000 in
theorem c_X5_allServe (l : Launch) (D : va_G) (cs : Nat → ClassId) (ad : Nat → Nat) (F : ZF) (A : ZA) (T : Int64) (q : Int32) (h : f_X5_allServe F A T = some q) : zMi l D cs (XWc cs ad 10 11) yX5_allServe cX5_allServe 3 (some .int) rm_X5_allServe ([.ref (ad 2)] : List Value) F A T ((q, F, A, T) : Int32 × ZS) True := by
  refine z_enteri (by decide) (Nat.le_of_ble_eq_true rfl) ?_
  intro p e s m below meth c A0 ls S K w hA hr hlk hl
  have S : CallFix p m c cX5_allServe 3 s ([.ref (ad 2)] : List Value).toArray zWs RX5 := S
  have hl : lv_has ls 3 [(0, .ref (ad 2))] := hl
  unfold f_X5_allServe at h
  have j4 : ∀ (n4 : Nat) (x1 x2 : Int32), f_X5_allServe_4 F A T n4 x1 x2 = some q → ∀ (H : Heap) (locs : List Loc) (ls : Array Slot), lv_has ls 3 [(0, .ref (ad 2)), (1, .int x1), (2, .int x2)] → ZW D A0 s.heap (XWc cs ad 10 11 F A T) H locs → W p l e rm_X5_allServe s m ([.ref (ad 2)] : List Value).toArray below meth c H locs 0 0 (zQi (XWc cs ad 10 11) D A0 below ([.ref (ad 2)] : List Value) s ((q, F, A, T) : Int32 × ZS) True) (F0 m 4 ls []) := by
    intro n4
    induction n4 with
    | zero =>
      intro x1 x2 h H locs ls hl w
      have h : (none : Option Int32) = some q := h
      cases h
    | succ n4 ih4 =>
      intro x1 x2 h H locs ls hl w
      rw [f_X5_allServe_4_s] at h
      refine lv_iload_n S.1 S.2.1 dX5_allServe_4 rfl (lv_at hl 2 rfl) ?_
      refine lv_aload_n S.1 S.2.1 dX5_allServe_5 rfl (lv_at hl 0 rfl) ?_
      refine gX_2_5 S K w w132 dX5_allServe_6 ?_
      refine lv_icmp_ge (tgt := 27) S.1 S.2.1 dX5_allServe_9 (by decide) (fun c1 => ?_) (fun c1 => ?_)
      · have h := og_t c1 h
        refine lv_iload_n S.1 S.2.1 dX5_allServe_27 rfl (lv_at hl 1 rfl) ?_
        exact z_reti S w hr hlk dX5_allServe_28 trivial (by rw [← Option.some.inj h])
      · have h := og_f c1 h
        refine lv_iload_n S.1 S.2.1 dX5_allServe_12 rfl (lv_at hl 1 rfl) ?_
        refine lv_aload_n S.1 S.2.1 dX5_allServe_13 rfl (lv_at hl 0 rfl) ?_
        refine gX_2_1 S K w w125 dX5_allServe_14 ?_
        refine lv_iload_n S.1 S.2.1 dX5_allServe_17 rfl (lv_at hl 2 rfl) ?_
        obtain ⟨g2, h⟩ := og_g h
        refine aX_15 S K w g2 dX5_allServe_18 ?_
        refine lv_iadd S.1 S.2.1 dX5_allServe_19 ?_
        refine lv_istore_n (lv' := [(1, .int (x1 + (A 15 (x2).toNatClampNeg))), (0, .ref (ad 2)), (2, .int x2)]) S.1 S.2.1 dX5_allServe_20 rfl hl (by decide) rfl (fun ls hl => ?_)
        refine lv_iinc (v := (x2 + (1 : Int32))) (lv' := [(2, .int (x2 + (1 : Int32))), (1, .int (x1 + (A 15 (x2).toNatClampNeg))), (0, .ref (ad 2))]) S.1 S.2.1 dX5_allServe_21 hl (k := 2) rfl rfl (by decide) rfl (fun ls hl => ?_)
        refine lv_goto (tgt := 4) S.1 S.2.1 dX5_allServe_24 (by decide) ?_
        exact ih4 _ _ h _ _ _ (lv_sub hl [2, 1, 0] rfl) w
  refine lv_iconst (v := 0) S.1 S.2.1 dX5_allServe_0 (by decide) ?_
  refine lv_istore_n (lv' := [(1, .int (0 : Int32)), (0, .ref (ad 2))]) S.1 S.2.1 dX5_allServe_1 rfl hl (by decide) rfl (fun ls hl => ?_)
  refine lv_iconst (v := 0) S.1 S.2.1 dX5_allServe_2 (by decide) ?_
  refine lv_istore_n (lv' := [(2, .int (0 : Int32)), (1, .int (0 : Int32)), (0, .ref (ad 2))]) S.1 S.2.1 dX5_allServe_3 rfl hl (by decide) rfl (fun ls hl => ?_)
  exact j4 1000 _ _ h _ _ _ (lv_sub hl [2, 1, 0] rfl) w
set_option maxHeartbeats 4000000 in
set_option maxRecDepth 100000 in
theorem c_X10_now (l : Launch) (D : va_G) (cs : Nat → ClassId) (ad : Nat → Nat) (F : ZF) (A : ZA) (T : Int64) (a0 : Int32) (q : (Int32 × ZS)) (h : f_X10_now a0 F A T = some q) : zMi l D cs (XWc cs ad 10 11) yX10_now cX10_now 2 (some .int) rm_X10_now ([.ref (ad 0), .int a0] : List Value) F A T q True := by
  refine z_enteri (by decide) (Nat.le_of_ble_eq_true rfl) ?_
  intro p e s m below meth c A0 ls S K w hA hr hlk hl
  have S : CallFix p m c cX10_now 2 s ([.ref (ad 0), .int a0] : List Value).toArray zWs RX10 := S
  have hl : lv_has ls 2 [(0, .ref (ad 0)), (1, .int a0)] := hl
  unfold f_X10_now at h
  refine lv_iload_n S.1 S.2.1 dX10_now_0 rfl (lv_at hl 1 rfl) ?_
  by_cases c1 : a0 = (0 : Int32)
  · have h := og_t c1 h
    refine lv_tableIn (tgt := 36) S.1 S.2.1 dX10_now_1 (by rw [c1]; decide) (by rw [c1]; decide) (off := 35) (by rw [c1]; decide) (by decide) ?_
    refine lv_aload_n S.1 S.2.1 dX10_now_36 rfl (lv_at hl 0 rfl) ?_
    obtain ⟨q3, e4, h⟩ := og_b h
    refine z_callVi S K w hA (c_X10_caseNow l D cs ad F A T q3 e4) (cw_X10_167 S.2.2.2.2 ⟨Nat.le_of_ble_eq_true rfl, Nat.le_of_ble_eq_true rfl⟩) (z_recv K w 0 10 rfl rfl) rfl hl.1 rfl (Nat.le_of_ble_eq_true rfl) ⟨Nat.zero_le _, Nat.zero_le _⟩ dX10_now_37 (fun b2 H locs w => ?_)
    exact z_reti S w hr hlk dX10_now_40 trivial (Option.some.inj h).symm
  · have h := og_f c1 h
    by_cases c5 : a0 = (1 : Int32)
    · have h := og_t c5 h
      refine lv_tableIn (tgt := 41) S.1 S.2.1 dX10_now_1 (by rw [c5]; decide) (by rw [c5]; decide) (off := 40) (by rw [c5]; decide) (by decide) ?_
      refine lv_aload_n S.1 S.2.1 dX10_now_41 rfl (lv_at hl 0 rfl) ?_
      refine gX_0_2 S K w w314 dX10_now_42 ?_
      refine gX_3_0 S K w w154 dX10_now_45 ?_
      exact z_reti S w hr hlk dX10_now_48 trivial (Option.some.inj h).symm
    · have h := og_f c5 h
      by_cases c6 : a0 = (2 : Int32)
      · have h := og_t c6 h
        refine lv_tableIn (tgt := 49) S.1 S.2.1 dX10_now_1 (by rw [c6]; decide) (by rw [c6]; decide) (off := 48) (by rw [c6]; decide) (by decide) ?_
        refine lv_aload_n S.1 S.2.1 dX10_now_49 rfl (lv_at hl 0 rfl) ?_
        refine gX_0_2 S K w w314 dX10_now_50 ?_
        refine gX_3_1 S K w w156 dX10_now_53 ?_
        exact z_reti S w hr hlk dX10_now_56 trivial (Option.some.inj h).symm
      · have h := og_f c6 h
        by_cases c7 : a0 = (3 : Int32)
        · have h := og_t c7 h
          refine lv_tableIn (tgt := 57) S.1 S.2.1 dX10_now_1 (by rw [c7]; decide) (by rw [c7]; decide) (off := 56) (by rw [c7]; decide) (by decide) ?_
          refine lv_aload_n S.1 S.2.1 dX10_now_57 rfl (lv_at hl 0 rfl) ?_
          refine gX_0_2 S K w w314 dX10_now_58 ?_
          refine gX_3_2 S K w w158 dX10_now_61 ?_
          exact z_reti S w hr hlk dX10_now_64 trivial (Option.some.inj h).symm
        · have h := og_f c7 h
          by_cases c8 : a0 = (4 : Int32)
          · have h := og_t c8 h
            refine lv_tableIn (tgt := 65) S.1 S.2.1 dX10_now_1 (by rw [c8]; decide) (by rw [c8]; decide) (off := 64) (by rw [c8]; decide) (by decide) ?_
            refine lv_aload_n S.1 S.2.1 dX10_now_65 rfl (lv_at hl 0 rfl) ?_
            obtain ⟨q9, e10, h⟩ := og_b h
            refine z_callVv S K w hA (c_X10_weighNow l D cs ad F A T q9 e10) (cw_X10_111 S.2.2.2.2 ⟨Nat.le_of_ble_eq_true rfl, Nat.le_of_ble_eq_true rfl⟩) (z_recv K w 0 10 rfl rfl) rfl hl.1 rfl (Nat.le_of_ble_eq_true rfl) ⟨Nat.zero_le _, Nat.zero_le _⟩ dX10_now_66 (fun H locs w => ?_)
            refine lv_aload_n S.1 S.2.1 dX10_now_69 rfl (lv_at hl 0 rfl) ?_
            refine gX_0_1 S K w w312 dX10_now_70 ?_
            obtain ⟨q12, e13, h⟩ := og_b h
            refine z_callVr S K w hA (c_X5_allServe l D cs ad q9.1 q9.2.1 q9.2.2 q12 e13) (cw_X10_184 S.2.2.2.2 ⟨Nat.le_of_ble_eq_true rfl, Nat.le_of_ble_eq_true rfl⟩) (z_recv K w 2 5 rfl rfl) rfl hl.1 rfl (Nat.le_of_ble_eq_true rfl) ⟨Nat.zero_le _, Nat.zero_le _⟩ dX10_now_73 (fun b11 H locs w => ?_)
            exact z_reti S w hr hlk dX10_now_76 trivial (Option.some.inj h).symm
          · have h := og_f c8 h
            refine lv_tableOut (tgt := 77) S.1 S.2.1 dX10_now_1 (by have := lv_neT (k := (0 : Int32)) (a := 0) c1 (by decide); have := lv_neT (k := (1 : Int32)) (a := 1) c5 (by decide); have := lv_neT (k := (2 : Int32)) (a := 2) c6 (by decide); have := lv_neT (k := (3 : Int32)) (a := 3) c7 (by decide); have := lv_neT (k := (4 : Int32)) (a := 4) c8 (by decide); omega) (by decide) ?_
            refine lv_iconst (v := -1) S.1 S.2.1 dX10_now_77 (by decide) ?_
            exact z_reti S w hr hlk dX10_now_78 trivial (Option.some.inj h).symm
set_option maxHeartbeats 4000000 in
set_option maxRecDepth 100000 in
theorem c_X10_isFraction (l : Launch) (D : va_G) (cs : Nat → ClassId) (ad : Nat → Nat) (F : ZF) (A : ZA) (T : Int64) (a0 a1 : Int32) (q : Int32) (h : f_X10_isFraction a0 a1 = q) : zMi l D cs (XWc cs ad 10 11) yX10_isFraction cX10_isFraction 2 (some .boolean) rm_X10_isFraction ([.int a0, .int a1] : List Value) F A T ((q, F, A, T) : Int32 × ZS) (((q, F, A, T) : Int32 × ZS).1 &&& 1 = ((q, F, A, T) : Int32 × ZS).1) := by
  refine z_enteri (by decide) (Nat.le_of_ble_eq_true rfl) ?_
  intro p e s m below meth c A0 ls S K w hA hr hlk hl
  have S : CallFix p m c cX10_isFraction 2 s ([.int a0, .int a1] : List Value).toArray zWs RX10 := S
  have hl : lv_has ls 2 [(0, .int a0), (1, .int a1)] := hl
  unfold f_X10_isFraction at h
  refine lv_iload_n S.1 S.2.1 dX10_isFraction_0 rfl (lv_at hl 1 rfl) ?_
  refine lv_iconst (v := 1) S.1 S.2.1 dX10_isFraction_1 (by decide) ?_
  refine lv_bipush (v := 20) S.1 S.2.1 dX10_isFraction_2 (by decide) ?_
  refine z_callSr S K w hA (c_X10_within l D cs ad F A T a1 (1 : Int32) (20 : Int32) (f_X10_within a1 (1 : Int32) (20 : Int32)) rfl) (cw_X10_90 S.2.2.2.2 ⟨Nat.le_of_ble_eq_true rfl, Nat.le_of_ble_eq_true rfl⟩) rfl hl.1 rfl (Nat.le_of_ble_eq_true rfl) ⟨Nat.zero_le _, Nat.zero_le _⟩ dX10_isFraction_4 (fun b1 H locs w => ?_)
  refine lv_if_eq (tgt := 23) S.1 S.2.1 dX10_isFraction_7 (by decide) (fun c2 => ?_) (fun c2 => ?_)
  · have h := og_t c2 h
    refine lv_iconst (v := 0) S.1 S.2.1 dX10_isFraction_23 (by decide) ?_
    exact z_retz S w hr hlk dX10_isFraction_24 (by decide) (by rw [← h])
  · have h := og_f c2 h
    refine lv_iload_n S.1 S.2.1 dX10_isFraction_10 rfl (lv_at hl 0 rfl) ?_
    refine lv_iconst (v := 0) S.1 S.2.1 dX10_isFraction_11 (by decide) ?_
    refine lv_iload_n S.1 S.2.1 dX10_isFraction_12 rfl (lv_at hl 1 rfl) ?_
    refine z_callSr S K w hA (c_X10_within l D cs ad F A T a0 (0 : Int32) a1 (f_X10_within a0 (0 : Int32) a1) rfl) (cw_X10_90 S.2.2.2.2 ⟨Nat.le_of_ble_eq_true rfl, Nat.le_of_ble_eq_true rfl⟩) rfl hl.1 rfl (Nat.le_of_ble_eq_true rfl) ⟨Nat.zero_le _, Nat.zero_le _⟩ dX10_isFraction_13 (fun b3 H locs w => ?_)
    refine lv_if_eq (tgt := 23) S.1 S.2.1 dX10_isFraction_16 (by decide) (fun c4 => ?_) (fun c4 => ?_)
    · have h := og_t c4 h
      refine lv_iconst (v := 0) S.1 S.2.1 dX10_isFraction_23 (by decide) ?_
      exact z_retz S w hr hlk dX10_isFraction_24 (by decide) (by rw [← h])
    · have h := og_f c4 h
      refine lv_iconst (v := 1) S.1 S.2.1 dX10_isFraction_19 (by decide) ?_
      refine lv_goto (tgt := 24) S.1 S.2.1 dX10_isFraction_20 (by decide) ?_
      exact z_retz S w hr hlk dX10_isFraction_24 (by decide) (by rw [← h])
set_option maxHeartbeats 4000000 in
set_option maxRecDepth 100000 in
theorem c_X1_costOf (l : Launch) (D : va_G) (cs : Nat → ClassId) (ad : Nat → Nat) (F : ZF) (A : ZA) (T : Int64) (a0 : Int32) (q : Int32) (h : f_X1_costOf a0 F A T = some q) : zMi l D cs (XWc cs ad 10 11) yX1_costOf cX1_costOf 4 (some .int) rm_X1_costOf ([.ref (ad 10), .int a0] : List Value) F A T ((q, F, A, T) : Int32 × ZS) True := by
  refine z_enteri (by decide) (Nat.le_of_ble_eq_true rfl) ?_
  intro p e s m below meth c A0 ls S K w hA hr hlk hl
  have S : CallFix p m c cX1_costOf 4 s ([.ref (ad 10), .int a0] : List Value).toArray zWs RX1 := S
  have hl : lv_has ls 4 [(0, .ref (ad 10)), (1, .int a0)] := hl
  unfold f_X1_costOf at h
  have j4 : ∀ (n4 : Nat) (x1 x2 x3 : Int32), f_X1_costOf_4 F A T n4 x1 x2 x3 = some q → ∀ (H : Heap) (locs : List Loc) (ls : Array Slot), lv_has ls 4 [(0, .ref (ad 10)), (1, .int x1), (2, .int x2), (3, .int x3)] → ZW D A0 s.heap (XWc cs ad 10 11 F A T) H locs → W p l e rm_X1_costOf s m ([.ref (ad 10), .int a0] : List Value).toArray below meth c H locs 0 0 (zQi (XWc cs ad 10 11) D A0 below ([.ref (ad 10), .int a0] : List Value) s ((q, F, A, T) : Int32 × ZS) True) (F0 m 4 ls []) := by
    intro n4
    induction n4 with
    | zero =>
      intro x1 x2 x3 h H locs ls hl w
      have h : (none : Option Int32) = some q := h
      cases h
    | succ n4 ih4 =>
      intro x1 x2 x3 h H locs ls hl w
      rw [f_X1_costOf_4_s] at h
      refine lv_iload_n S.1 S.2.1 dX1_costOf_4 rfl (lv_at hl 3 rfl) ?_
      refine lv_aload_n S.1 S.2.1 dX1_costOf_5 rfl (lv_at hl 0 rfl) ?_
      refine gX_10_1 S K w w228 dX1_costOf_6 ?_
      refine lv_icmp_ge (tgt := 36) S.1 S.2.1 dX1_costOf_9 (by decide) (fun c1 => ?_) (fun c1 => ?_)
      · have h := og_t c1 h
        refine lv_iload_n S.1 S.2.1 dX1_costOf_36 rfl (lv_at hl 2 rfl) ?_
        exact z_reti S w hr hlk dX1_costOf_37 trivial (by rw [← Option.some.inj h])
      · have h := og_f c1 h
        refine lv_iload_n S.1 S.2.1 dX1_costOf_12 rfl (lv_at hl 1 rfl) ?_
        refine lv_iload_n S.1 S.2.1 dX1_costOf_13 rfl (lv_at hl 3 rfl) ?_
        refine z_callNr S K w hA (c_X10_bit l D cs ad F A T x1 x3 (f_X10_bit x1 x3) rfl) (cw_X1_58 S.2.2.2.2 K.2 ⟨Nat.le_of_ble_eq_true rfl, Nat.le_of_ble_eq_true rfl⟩) rfl hl.1 rfl (Nat.le_of_ble_eq_true rfl) ⟨Nat.zero_le _, Nat.zero_le _⟩ dX1_costOf_14 (fun b2 H locs w => ?_)
        refine lv_iconst (v := 1) S.1 S.2.1 dX1_costOf_17 (by decide) ?_
        refine lv_icmp_ne (tgt := 30) S.1 S.2.1 dX1_costOf_18 (by decide) (fun c3 => ?_) (fun c3 => ?_)
        · have h := og_f c3 h
          refine lv_iinc (v := (x3 + (1 : Int32))) (lv' := [(3, .int (x3 + (1 : Int32))), (0, .ref (ad 10)), (1, .int x1), (2, .int x2)]) S.1 S.2.1 dX1_costOf_30 hl (k := 3) rfl rfl (by decide) rfl (fun ls hl => ?_)
          refine lv_goto (tgt := 4) S.1 S.2.1 dX1_costOf_33 (by decide) ?_
          exact ih4 _ _ _ h _ _ _ (lv_sub hl [1, 2, 3, 0] rfl) w
        · have h := og_t c3 h
          refine lv_iload_n S.1 S.2.1 dX1_costOf_21 rfl (lv_at hl 2 rfl) ?_
          refine lv_aload_n S.1 S.2.1 dX1_costOf_22 rfl (lv_at hl 0 rfl) ?_
          refine gX_10_7 S K w w252 dX1_costOf_23 ?_
          refine lv_iload_n S.1 S.2.1 dX1_costOf_26 rfl (lv_at hl 3 rfl) ?_
          obtain ⟨g4, h⟩ := og_g h
          refine aX_30 S K w g4 dX1_costOf_27 ?_
          refine lv_iadd S.1 S.2.1 dX1_costOf_28 ?_
          refine lv_istore_n (lv' := [(2, .int (x2 + (A 30 (x3).toNatClampNeg))), (0, .ref (ad 10)), (1, .int x1), (3, .int x3)]) S.1 S.2.1 dX1_costOf_29 rfl hl (by decide) rfl (fun ls hl => ?_)
          refine lv_iinc (v := (x3 + (1 : Int32))) (lv' := [(3, .int (x3 + (1 : Int32))), (2, .int (x2 + (A 30 (x3).toNatClampNeg))), (0, .ref (ad 10)), (1, .int x1)]) S.1 S.2.1 dX1_costOf_30 hl (k := 3) rfl rfl (by decide) rfl (fun ls hl => ?_)
          refine lv_goto (tgt := 4) S.1 S.2.1 dX1_costOf_33 (by decide) ?_
          exact ih4 _ _ _ h _ _ _ (lv_sub hl [2, 3, 1, 0] rfl) w
  refine lv_iconst (v := 0) S.1 S.2.1 dX1_costOf_0 (by decide) ?_
  refine lv_istore_n (lv' := [(2, .int (0 : Int32)), (0, .ref (ad 10)), (1, .int a0)]) S.1 S.2.1 dX1_costOf_1 rfl hl (by decide) rfl (fun ls hl => ?_)
  refine lv_iconst (v := 0) S.1 S.2.1 dX1_costOf_2 (by decide) ?_
  refine lv_istore_n (lv' := [(3, .int (0 : Int32)), (2, .int (0 : Int32)), (0, .ref (ad 10)), (1, .int a0)]) S.1 S.2.1 dX1_costOf_3 rfl hl (by decide) rfl (fun ls hl => ?_)
  exact j4 1000 _ _ _ h _ _ _ (lv_sub hl [2, 3, 1, 0] rfl) w
