set_option maxHeartbeats 4000000 in
set_option maxRecDepth 100000 in
theorem c_X10_innocent (l : Launch) (D : va_G) (cs : Nat → ClassId) (ad : Nat → Nat) (F : ZF) (A : ZA) (T : Int64) (a0 : Int32) (q : (Int32 × ZS)) (h : f_X10_innocent a0 F A T = some q) : zMi l D cs (XWc cs ad 10 11) yX10_innocent cX10_innocent 4 (some .int) rm_X10_innocent ([.ref (ad 0), .int a0] : List Value) F A T q True := by
  refine z_enteri (by decide) (Nat.le_of_ble_eq_true rfl) ?_
  intro p e s m below meth c A0 ls S K w hA hr hlk hl
  have S : CallFix p m c cX10_innocent 4 s ([.ref (ad 0), .int a0] : List Value).toArray zWs RX10 := S
  have hl : lv_has ls 4 [(0, .ref (ad 0)), (1, .int a0)] := hl
  unfold f_X10_innocent at h
  have j32 : ∀ (n32 : Nat) (x1 x2 x3 : Int32) (F : ZF) (A : ZA) (T : Int64), f_X10_innocent_32 n32 x1 x2 x3 F A T = some q → ∀ (H : Heap) (locs : List Loc) (ls : Array Slot), lv_has ls 4 [(0, .ref (ad 0)), (1, .int x1), (2, .int x2), (3, .int x3)] → ZW D A0 s.heap (XWc cs ad 10 11 F A T) H locs → W p l e rm_X10_innocent s m ([.ref (ad 0), .int a0] : List Value).toArray below meth c H locs 0 0 (zQi (XWc cs ad 10 11) D A0 below ([.ref (ad 0), .int a0] : List Value) s q True) (F0 m 32 ls []) := by
    intro n32
    induction n32 with
    | zero =>
      intro x1 x2 x3 F A T h H locs ls hl w
      have h : (none : Option (Int32 × ZS)) = some q := h
      cases h
    | succ n32 ih32 =>
      intro x1 x2 x3 F A T h H locs ls hl w
      rw [f_X10_innocent_32_s] at h
      refine lv_iload_n S.1 S.2.1 dX10_innocent_32 rfl (lv_at hl 3 rfl) ?_
      refine lv_iconst (v := 1) S.1 S.2.1 dX10_innocent_33 (by decide) ?_
      refine lv_aload_n S.1 S.2.1 dX10_innocent_34 rfl (lv_at hl 0 rfl) ?_
      refine gX_0_11 S K w w330 dX10_innocent_35 ?_
      refine gX_10_1 S K w w231 dX10_innocent_38 ?_
      refine lv_ishl S.1 S.2.1 dX10_innocent_41 ?_
      refine lv_icmp_ge (tgt := 70) S.1 S.2.1 dX10_innocent_42 (by decide) (fun c1 => ?_) (fun c1 => ?_)
      · have h := og_t c1 h
        refine lv_iload_n S.1 S.2.1 dX10_innocent_70 rfl (lv_at hl 2 rfl) ?_
        exact z_reti S w hr hlk dX10_innocent_71 trivial (Option.some.inj h).symm
      · have h := og_f c1 h
        refine lv_aload_n S.1 S.2.1 dX10_innocent_45 rfl (lv_at hl 0 rfl) ?_
        refine gX_0_1 S K w w312 dX10_innocent_46 ?_
        refine lv_aload_n S.1 S.2.1 dX10_innocent_49 rfl (lv_at hl 0 rfl) ?_
        refine gX_0_11 S K w w330 dX10_innocent_50 ?_
        refine lv_iload_n S.1 S.2.1 dX10_innocent_53 rfl (lv_at hl 3 rfl) ?_
        refine lv_iload_n S.1 S.2.1 dX10_innocent_54 rfl (lv_at hl 1 rfl) ?_
        obtain ⟨q3, e4, h⟩ := og_b h
        refine z_callVr S K w hA (c_X5_heldBy l D cs ad F A T x3 x1 q3 e4) (cw_X10_243 S.2.2.2.2 ⟨Nat.le_of_ble_eq_true rfl, Nat.le_of_ble_eq_true rfl⟩) (z_recv K w 2 5 rfl rfl) rfl hl.1 rfl (Nat.le_of_ble_eq_true rfl) ⟨Nat.zero_le _, Nat.zero_le _⟩ dX10_innocent_55 (fun b2 H locs w => ?_)
        refine lv_if_ne (tgt := 64) S.1 S.2.1 dX10_innocent_58 (by decide) (fun c5 => ?_) (fun c5 => ?_)
        · have h := og_f c5 h
          refine lv_iinc (v := (x3 + (1 : Int32))) (lv' := [(3, .int (x3 + (1 : Int32))), (0, .ref (ad 0)), (1, .int x1), (2, .int x2)]) S.1 S.2.1 dX10_innocent_64 hl (k := 3) rfl rfl (by decide) rfl (fun ls hl => ?_)
          refine lv_goto (tgt := 32) S.1 S.2.1 dX10_innocent_67 (by decide) ?_
          exact ih32 _ _ _ _ _ _ h _ _ _ (lv_sub hl [1, 2, 3, 0] rfl) w
        · have h := og_t c5 h
          refine lv_iinc (v := (x2 + (1 : Int32))) (lv' := [(2, .int (x2 + (1 : Int32))), (0, .ref (ad 0)), (1, .int x1), (3, .int x3)]) S.1 S.2.1 dX10_innocent_61 hl (k := 2) rfl rfl (by decide) rfl (fun ls hl => ?_)
          refine lv_iinc (v := (x3 + (1 : Int32))) (lv' := [(3, .int (x3 + (1 : Int32))), (2, .int (x2 + (1 : Int32))), (0, .ref (ad 0)), (1, .int x1)]) S.1 S.2.1 dX10_innocent_64 hl (k := 3) rfl rfl (by decide) rfl (fun ls hl => ?_)
          refine lv_goto (tgt := 32) S.1 S.2.1 dX10_innocent_67 (by decide) ?_
          exact ih32 _ _ _ _ _ _ h _ _ _ (lv_sub hl [2, 3, 1, 0] rfl) w
  refine lv_aload_n S.1 S.2.1 dX10_innocent_0 rfl (lv_at hl 0 rfl) ?_
  refine lv_iload_n S.1 S.2.1 dX10_innocent_1 rfl (lv_at hl 1 rfl) ?_
  refine z_callVr S K w hA (c_X10_isSuspect l D cs ad F A T a0 (f_X10_isSuspect a0 F A T) rfl) (cw_X10_107 S.2.2.2.2 ⟨Nat.le_of_ble_eq_true rfl, Nat.le_of_ble_eq_true rfl⟩) (z_recv K w 0 10 rfl rfl) rfl hl.1 rfl (Nat.le_of_ble_eq_true rfl) ⟨Nat.zero_le _, Nat.zero_le _⟩ dX10_innocent_2 (fun b6 H locs w => ?_)
  refine lv_if_ne (tgt := 10) S.1 S.2.1 dX10_innocent_5 (by decide) (fun c7 => ?_) (fun c7 => ?_)
  · have h := og_f c7 h
    refine lv_aload_n S.1 S.2.1 dX10_innocent_10 rfl (lv_at hl 0 rfl) ?_
    refine gX_0_1 S K w w312 dX10_innocent_11 ?_
    refine lv_aload_n S.1 S.2.1 dX10_innocent_14 rfl (lv_at hl 0 rfl) ?_
    refine gX_0_11 S K w w330 dX10_innocent_15 ?_
    refine lv_aload_n S.1 S.2.1 dX10_innocent_18 rfl (lv_at hl 0 rfl) ?_
    refine gX_0_2 S K w w314 dX10_innocent_19 ?_
    refine gX_3_1 S K w w156 dX10_innocent_22 ?_
    obtain ⟨q8, e9, h⟩ := og_b h
    refine z_callVv S K w hA (c_X5_countHours l D cs ad F A T (F 11) q8 e9) (cw_X10_235 S.2.2.2.2 ⟨Nat.le_of_ble_eq_true rfl, Nat.le_of_ble_eq_true rfl⟩) (z_recv K w 2 5 rfl rfl) rfl hl.1 rfl (Nat.le_of_ble_eq_true rfl) ⟨Nat.zero_le _, Nat.zero_le _⟩ dX10_innocent_25 (fun H locs w => ?_)
    refine lv_iconst (v := 0) S.1 S.2.1 dX10_innocent_28 (by decide) ?_
    refine lv_istore_n (lv' := [(2, .int (0 : Int32)), (0, .ref (ad 0)), (1, .int a0)]) S.1 S.2.1 dX10_innocent_29 rfl hl (by decide) rfl (fun ls hl => ?_)
    refine lv_iconst (v := 0) S.1 S.2.1 dX10_innocent_30 (by decide) ?_
    refine lv_istore_n (lv' := [(3, .int (0 : Int32)), (2, .int (0 : Int32)), (0, .ref (ad 0)), (1, .int a0)]) S.1 S.2.1 dX10_innocent_31 rfl hl (by decide) rfl (fun ls hl => ?_)
    exact j32 1000 _ _ _ _ _ _ h _ _ _ (lv_sub hl [2, 3, 1, 0] rfl) w
  · have h := og_t c7 h
    refine lv_iconst (v := -1) S.1 S.2.1 dX10_innocent_8 (by decide) ?_
    exact z_reti S w hr hlk dX10_innocent_9 trivial (Option.some.inj h).symm
set_option maxHeartbeats 4000000 in
set_option maxRecDepth 100000 in
theorem c_X6_become_19_3 (l : Launch) (D : va_G) (cs : Nat → ClassId) (ad : Nat → Nat) (F : ZF) (A : ZA) (T : Int64) (q : ZS) (h : f_X6_become_19_3 F A T = some q) : zMv l D cs (XWc cs ad 10 11) yX6_become cX6_become 2 none rm_X6_become ([.ref (ad 19), .ref (ad 3)] : List Value) F A T q := by
  refine z_enterv (by decide) (Nat.le_of_ble_eq_true rfl) ?_
  intro p e s m below meth c A0 ls S K w hA hr hlk hl
  have S : CallFix p m c cX6_become 2 s ([.ref (ad 19), .ref (ad 3)] : List Value).toArray zWs RX6 := S
  have hl : lv_has ls 2 [(0, .ref (ad 19)), (1, .ref (ad 3))] := hl
  unfold f_X6_become_19_3 at h
  refine lv_aload_n S.1 S.2.1 dX6_become_0 rfl (lv_at hl 0 rfl) ?_
  refine lv_aload_n S.1 S.2.1 dX6_become_1 rfl (lv_at hl 1 rfl) ?_
  refine gX_3_0 S K w w152 dX6_become_2 ?_
  refine pX_19_0 S K w w152 dX6_become_5 (fun H locs w => ?_)
  refine lv_aload_n S.1 S.2.1 dX6_become_8 rfl (lv_at hl 0 rfl) ?_
  refine lv_aload_n S.1 S.2.1 dX6_become_9 rfl (lv_at hl 1 rfl) ?_
  refine gX_3_1 S K w w155 dX6_become_10 ?_
  refine pX_19_1 S K w w155 dX6_become_13 (fun H locs w => ?_)
  refine lv_aload_n S.1 S.2.1 dX6_become_16 rfl (lv_at hl 0 rfl) ?_
  refine lv_aload_n S.1 S.2.1 dX6_become_17 rfl (lv_at hl 1 rfl) ?_
  refine gX_3_2 S K w w157 dX6_become_18 ?_
  refine pX_19_2 S K w w157 dX6_become_21 (fun H locs w => ?_)
  refine lv_aload_n S.1 S.2.1 dX6_become_24 rfl (lv_at hl 0 rfl) ?_
  refine lv_aload_n S.1 S.2.1 dX6_become_25 rfl (lv_at hl 1 rfl) ?_
  refine gX_3_3 S K w w159 dX6_become_26 ?_
  refine pX_19_3 S K w w159 dX6_become_29 (fun H locs w => ?_)
  refine lv_aload_n S.1 S.2.1 dX6_become_32 rfl (lv_at hl 1 rfl) ?_
  refine gX_3_4 S K w w161 dX6_become_33 ?_
  refine lv_iconst (v := 0) S.1 S.2.1 dX6_become_36 (by decide) ?_
  refine lv_aload_n S.1 S.2.1 dX6_become_37 rfl (lv_at hl 0 rfl) ?_
  refine gX_19_4 S K w w161 dX6_become_38 ?_
  refine lv_iconst (v := 0) S.1 S.2.1 dX6_become_41 (by decide) ?_
  refine lv_bipush (v := 10) S.1 S.2.1 dX6_become_42 (by decide) ?_
  refine va_copyi S.1 S.2.1 (S.2.2.1.trans hl.1.symm) S.2.2.2.1 (S.2.2.2.2 _ w508) (S.2.2.2.2 _ w510) (S.2.2.2.2 _ w509) (S.2.2.2.2 _ w70) K.1 w.1 w.2.1 w.2.2 18 21 0 0 (f := A 18) (g := A 21) (n0 := 10) (n1 := 10) rfl rfl rfl rfl rfl (by decide) (by decide) (by decide) (by decide) (by decide) (fun _ _ => rfl) (Nat.le_of_ble_eq_true rfl) (Nat.le_of_ble_eq_true rfl) dX6_become_44 (fun H locs h1 h2 h3 => ?_)
  have w : ZW D A0 s.heap (XWc cs ad 10 11 (upd (upd (upd (upd F 14 (F 10)) 15 ((upd F 14 (F 10)) 11)) 16 ((upd (upd F 14 (F 10)) 15 ((upd F 14 (F 10)) 11)) 12)) 17 ((upd (upd (upd F 14 (F 10)) 15 ((upd F 14 (F 10)) 11)) 16 ((upd (upd F 14 (F 10)) 15 ((upd F 14 (F 10)) 11)) 12)) 13)) (zrw A 21 (va_cpy (A 18) (A 21) ((0 : Int32)).toNatClampNeg ((0 : Int32)).toNatClampNeg ((10 : Int32)).toNatClampNeg)) T) H locs := ⟨h1, h2, h3⟩
  exact z_retv S w hr hlk dX6_become_47 (Option.some.inj h).symm
set_option maxHeartbeats 4000000 in
set_option maxRecDepth 100000 in
theorem c_X6_become_20_3 (l : Launch) (D : va_G) (cs : Nat → ClassId) (ad : Nat → Nat) (F : ZF) (A : ZA) (T : Int64) (q : ZS) (h : f_X6_become_20_3 F A T = some q) : zMv l D cs (XWc cs ad 10 11) yX6_become cX6_become 2 none rm_X6_become ([.ref (ad 20), .ref (ad 3)] : List Value) F A T q := by
  refine z_enterv (by decide) (Nat.le_of_ble_eq_true rfl) ?_
  intro p e s m below meth c A0 ls S K w hA hr hlk hl
  have S : CallFix p m c cX6_become 2 s ([.ref (ad 20), .ref (ad 3)] : List Value).toArray zWs RX6 := S
  have hl : lv_has ls 2 [(0, .ref (ad 20)), (1, .ref (ad 3))] := hl
  unfold f_X6_become_20_3 at h
  refine lv_aload_n S.1 S.2.1 dX6_become_0 rfl (lv_at hl 0 rfl) ?_
  refine lv_aload_n S.1 S.2.1 dX6_become_1 rfl (lv_at hl 1 rfl) ?_
  refine gX_3_0 S K w w152 dX6_become_2 ?_
  refine pX_20_0 S K w w152 dX6_become_5 (fun H locs w => ?_)
  refine lv_aload_n S.1 S.2.1 dX6_become_8 rfl (lv_at hl 0 rfl) ?_
  refine lv_aload_n S.1 S.2.1 dX6_become_9 rfl (lv_at hl 1 rfl) ?_
  refine gX_3_1 S K w w155 dX6_become_10 ?_
  refine pX_20_1 S K w w155 dX6_become_13 (fun H locs w => ?_)
  refine lv_aload_n S.1 S.2.1 dX6_become_16 rfl (lv_at hl 0 rfl) ?_
  refine lv_aload_n S.1 S.2.1 dX6_become_17 rfl (lv_at hl 1 rfl) ?_
  refine gX_3_2 S K w w157 dX6_become_18 ?_
  refine pX_20_2 S K w w157 dX6_become_21 (fun H locs w => ?_)
  refine lv_aload_n S.1 S.2.1 dX6_become_24 rfl (lv_at hl 0 rfl) ?_
  refine lv_aload_n S.1 S.2.1 dX6_become_25 rfl (lv_at hl 1 rfl) ?_
  refine gX_3_3 S K w w159 dX6_become_26 ?_
  refine pX_20_3 S K w w159 dX6_become_29 (fun H locs w => ?_)
  refine lv_aload_n S.1 S.2.1 dX6_become_32 rfl (lv_at hl 1 rfl) ?_
  refine gX_3_4 S K w w161 dX6_become_33 ?_
  refine lv_iconst (v := 0) S.1 S.2.1 dX6_become_36 (by decide) ?_
  refine lv_aload_n S.1 S.2.1 dX6_become_37 rfl (lv_at hl 0 rfl) ?_
  refine gX_20_4 S K w w161 dX6_become_38 ?_
  refine lv_iconst (v := 0) S.1 S.2.1 dX6_become_41 (by decide) ?_
  refine lv_bipush (v := 10) S.1 S.2.1 dX6_become_42 (by decide) ?_
  refine va_copyi S.1 S.2.1 (S.2.2.1.trans hl.1.symm) S.2.2.2.1 (S.2.2.2.2 _ w508) (S.2.2.2.2 _ w510) (S.2.2.2.2 _ w509) (S.2.2.2.2 _ w70) K.1 w.1 w.2.1 w.2.2 18 22 0 0 (f := A 18) (g := A 22) (n0 := 10) (n1 := 10) rfl rfl rfl rfl rfl (by decide) (by decide) (by decide) (by decide) (by decide) (fun _ _ => rfl) (Nat.le_of_ble_eq_true rfl) (Nat.le_of_ble_eq_true rfl) dX6_become_44 (fun H locs h1 h2 h3 => ?_)
  have w : ZW D A0 s.heap (XWc cs ad 10 11 (upd (upd (upd (upd F 18 (F 10)) 19 ((upd F 18 (F 10)) 11)) 20 ((upd (upd F 18 (F 10)) 19 ((upd F 18 (F 10)) 11)) 12)) 21 ((upd (upd (upd F 18 (F 10)) 19 ((upd F 18 (F 10)) 11)) 20 ((upd (upd F 18 (F 10)) 19 ((upd F 18 (F 10)) 11)) 12)) 13)) (zrw A 22 (va_cpy (A 18) (A 22) ((0 : Int32)).toNatClampNeg ((0 : Int32)).toNatClampNeg ((10 : Int32)).toNatClampNeg)) T) H locs := ⟨h1, h2, h3⟩
  exact z_retv S w hr hlk dX6_become_47 (Option.some.inj h).symm
set_option maxHeartbeats 4000000 in
set_option maxRecDepth 100000 in
theorem c_X10_keep (l : Launch) (D : va_G) (cs : Nat → ClassId) (ad : Nat → Nat) (F : ZF) (A : ZA) (T : Int64) (a0 : Int32) (q : (Int32 × ZS)) (h : f_X10_keep a0 F A T = some q) : zMi l D cs (XWc cs ad 10 11) yX10_keep cX10_keep 2 (some .int) rm_X10_keep ([.ref (ad 0), .int a0] : List Value) F A T q True := by
  refine z_enteri (by decide) (Nat.le_of_ble_eq_true rfl) ?_
  intro p e s m below meth c A0 ls S K w hA hr hlk hl
  have S : CallFix p m c cX10_keep 2 s ([.ref (ad 0), .int a0] : List Value).toArray zWs RX10 := S
  have hl : lv_has ls 2 [(0, .ref (ad 0)), (1, .int a0)] := hl
  unfold f_X10_keep at h
  refine lv_iload_n S.1 S.2.1 dX10_keep_0 rfl (lv_at hl 1 rfl) ?_
  refine lv_iconst (v := 0) S.1 S.2.1 dX10_keep_1 (by decide) ?_
  refine lv_iconst (v := 1) S.1 S.2.1 dX10_keep_2 (by decide) ?_
  refine z_callSr S K w hA (c_X10_within l D cs ad F A T a0 (0 : Int32) (1 : Int32) (f_X10_within a0 (0 : Int32) (1 : Int32)) rfl) (cw_X10_90 S.2.2.2.2 ⟨Nat.le_of_ble_eq_true rfl, Nat.le_of_ble_eq_true rfl⟩) rfl hl.1 rfl (Nat.le_of_ble_eq_true rfl) ⟨Nat.zero_le _, Nat.zero_le _⟩ dX10_keep_3 (fun b1 H locs w => ?_)
  refine lv_if_ne (tgt := 11) S.1 S.2.1 dX10_keep_6 (by decide) (fun c2 => ?_) (fun c2 => ?_)
  · have h := og_f c2 h
    refine lv_aload_n S.1 S.2.1 dX10_keep_11 rfl (lv_at hl 0 rfl) ?_
    refine gX_0_3 S K w w316 dX10_keep_12 ?_
    refine lv_iload_n S.1 S.2.1 dX10_keep_15 rfl (lv_at hl 1 rfl) ?_
    by_cases c3 : a0 = (0 : Int32)
    · have h := og_t c3 h
      refine rX_4_0 S K w c3 dX10_keep_16 ?_
      refine lv_aload_n S.1 S.2.1 dX10_keep_17 rfl (lv_at hl 0 rfl) ?_
      refine gX_0_2 S K w w314 dX10_keep_18 ?_
      obtain ⟨q4, e5, h⟩ := og_b h
      refine z_callVv S K w hA (c_X6_become_19_3 l D cs ad F A T q4 e5) (cw_X10_251 S.2.2.2.2 ⟨Nat.le_of_ble_eq_true rfl, Nat.le_of_ble_eq_true rfl⟩) (z_recv K w 19 6 rfl rfl) rfl hl.1 rfl (Nat.le_of_ble_eq_true rfl) ⟨Nat.zero_le _, Nat.zero_le _⟩ dX10_keep_21 (fun H locs w => ?_)
      refine lv_aload_n S.1 S.2.1 dX10_keep_24 rfl (lv_at hl 0 rfl) ?_
      refine gX_0_4 S K w w317 dX10_keep_25 ?_
      refine lv_iload_n S.1 S.2.1 dX10_keep_28 rfl (lv_at hl 1 rfl) ?_
      refine lv_iconst (v := 1) S.1 S.2.1 dX10_keep_29 (by decide) ?_
      obtain ⟨g6, h⟩ := og_g h
      refine sX_5 S K w g6 dX10_keep_30 (fun H locs w => ?_)
      refine lv_aload_n S.1 S.2.1 dX10_keep_31 rfl (lv_at hl 0 rfl) ?_
      obtain ⟨q8, e9, h⟩ := og_b h
      refine z_callVi S K w hA (c_X10_caseNow l D cs ad q4.1 (zst q4.2.1 5 (a0).toNatClampNeg (vp_nar .boolean (1 : Int32))) q4.2.2 q8 e9) (cw_X10_167 S.2.2.2.2 ⟨Nat.le_of_ble_eq_true rfl, Nat.le_of_ble_eq_true rfl⟩) (z_recv K w 0 10 rfl rfl) rfl hl.1 rfl (Nat.le_of_ble_eq_true rfl) ⟨Nat.zero_le _, Nat.zero_le _⟩ dX10_keep_32 (fun b7 H locs w => ?_)
      exact z_reti S w hr hlk dX10_keep_35 trivial (Option.some.inj h).symm
    · have h := og_f c3 h
      by_cases c10 : a0 = (1 : Int32)
      · have h := og_t c10 h
        refine rX_4_1 S K w c10 dX10_keep_16 ?_
        refine lv_aload_n S.1 S.2.1 dX10_keep_17 rfl (lv_at hl 0 rfl) ?_
        refine gX_0_2 S K w w314 dX10_keep_18 ?_
        obtain ⟨q11, e12, h⟩ := og_b h
        refine z_callVv S K w hA (c_X6_become_20_3 l D cs ad F A T q11 e12) (cw_X10_251 S.2.2.2.2 ⟨Nat.le_of_ble_eq_true rfl, Nat.le_of_ble_eq_true rfl⟩) (z_recv K w 20 6 rfl rfl) rfl hl.1 rfl (Nat.le_of_ble_eq_true rfl) ⟨Nat.zero_le _, Nat.zero_le _⟩ dX10_keep_21 (fun H locs w => ?_)
        refine lv_aload_n S.1 S.2.1 dX10_keep_24 rfl (lv_at hl 0 rfl) ?_
        refine gX_0_4 S K w w317 dX10_keep_25 ?_
        refine lv_iload_n S.1 S.2.1 dX10_keep_28 rfl (lv_at hl 1 rfl) ?_
        refine lv_iconst (v := 1) S.1 S.2.1 dX10_keep_29 (by decide) ?_
        obtain ⟨g13, h⟩ := og_g h
        refine sX_5 S K w g13 dX10_keep_30 (fun H locs w => ?_)
        refine lv_aload_n S.1 S.2.1 dX10_keep_31 rfl (lv_at hl 0 rfl) ?_
        obtain ⟨q15, e16, h⟩ := og_b h
        refine z_callVi S K w hA (c_X10_caseNow l D cs ad q11.1 (zst q11.2.1 5 (a0).toNatClampNeg (vp_nar .boolean (1 : Int32))) q11.2.2 q15 e16) (cw_X10_167 S.2.2.2.2 ⟨Nat.le_of_ble_eq_true rfl, Nat.le_of_ble_eq_true rfl⟩) (z_recv K w 0 10 rfl rfl) rfl hl.1 rfl (Nat.le_of_ble_eq_true rfl) ⟨Nat.zero_le _, Nat.zero_le _⟩ dX10_keep_32 (fun b14 H locs w => ?_)
        exact z_reti S w hr hlk dX10_keep_35 trivial (Option.some.inj h).symm
      · have h := og_f c10 h
        cases h
  · have h := og_t c2 h
    refine lv_iconst (v := -1) S.1 S.2.1 dX10_keep_9 (by decide) ?_
    exact z_reti S w hr hlk dX10_keep_10 trivial (Option.some.inj h).symm
set_option maxHeartbeats 4000000 in
set_option maxRecDepth 100000 in
theorem c_X6_become_3_19 (l : Launch) (D : va_G) (cs : Nat → ClassId) (ad : Nat → Nat) (F : ZF) (A : ZA) (T : Int64) (q : ZS) (h : f_X6_become_3_19 F A T = some q) : zMv l D cs (XWc cs ad 10 11) yX6_become cX6_become 2 none rm_X6_become ([.ref (ad 3), .ref (ad 19)] : List Value) F A T q := by
  refine z_enterv (by decide) (Nat.le_of_ble_eq_true rfl) ?_
  intro p e s m below meth c A0 ls S K w hA hr hlk hl
  have S : CallFix p m c cX6_become 2 s ([.ref (ad 3), .ref (ad 19)] : List Value).toArray zWs RX6 := S
  have hl : lv_has ls 2 [(0, .ref (ad 3)), (1, .ref (ad 19))] := hl
  unfold f_X6_become_3_19 at h
  refine lv_aload_n S.1 S.2.1 dX6_become_0 rfl (lv_at hl 0 rfl) ?_
  refine lv_aload_n S.1 S.2.1 dX6_become_1 rfl (lv_at hl 1 rfl) ?_
  refine gX_19_0 S K w w152 dX6_become_2 ?_
  refine pX_3_0 S K w w152 dX6_become_5 (fun H locs w => ?_)
  refine lv_aload_n S.1 S.2.1 dX6_become_8 rfl (lv_at hl 0 rfl) ?_
  refine lv_aload_n S.1 S.2.1 dX6_become_9 rfl (lv_at hl 1 rfl) ?_
  refine gX_19_1 S K w w155 dX6_become_10 ?_
  refine pX_3_1 S K w w155 dX6_become_13 (fun H locs w => ?_)
  refine lv_aload_n S.1 S.2.1 dX6_become_16 rfl (lv_at hl 0 rfl) ?_
  refine lv_aload_n S.1 S.2.1 dX6_become_17 rfl (lv_at hl 1 rfl) ?_
  refine gX_19_2 S K w w157 dX6_become_18 ?_
  refine pX_3_2 S K w w157 dX6_become_21 (fun H locs w => ?_)
  refine lv_aload_n S.1 S.2.1 dX6_become_24 rfl (lv_at hl 0 rfl) ?_
  refine lv_aload_n S.1 S.2.1 dX6_become_25 rfl (lv_at hl 1 rfl) ?_
  refine gX_19_3 S K w w159 dX6_become_26 ?_
  refine pX_3_3 S K w w159 dX6_become_29 (fun H locs w => ?_)
  refine lv_aload_n S.1 S.2.1 dX6_become_32 rfl (lv_at hl 1 rfl) ?_
  refine gX_19_4 S K w w161 dX6_become_33 ?_
  refine lv_iconst (v := 0) S.1 S.2.1 dX6_become_36 (by decide) ?_
  refine lv_aload_n S.1 S.2.1 dX6_become_37 rfl (lv_at hl 0 rfl) ?_
  refine gX_3_4 S K w w161 dX6_become_38 ?_
  refine lv_iconst (v := 0) S.1 S.2.1 dX6_become_41 (by decide) ?_
  refine lv_bipush (v := 10) S.1 S.2.1 dX6_become_42 (by decide) ?_
  refine va_copyi S.1 S.2.1 (S.2.2.1.trans hl.1.symm) S.2.2.2.1 (S.2.2.2.2 _ w508) (S.2.2.2.2 _ w510) (S.2.2.2.2 _ w509) (S.2.2.2.2 _ w70) K.1 w.1 w.2.1 w.2.2 21 18 0 0 (f := A 21) (g := A 18) (n0 := 10) (n1 := 10) rfl rfl rfl rfl rfl (by decide) (by decide) (by decide) (by decide) (by decide) (fun _ _ => rfl) (Nat.le_of_ble_eq_true rfl) (Nat.le_of_ble_eq_true rfl) dX6_become_44 (fun H locs h1 h2 h3 => ?_)
  have w : ZW D A0 s.heap (XWc cs ad 10 11 (upd (upd (upd (upd F 10 (F 14)) 11 ((upd F 10 (F 14)) 15)) 12 ((upd (upd F 10 (F 14)) 11 ((upd F 10 (F 14)) 15)) 16)) 13 ((upd (upd (upd F 10 (F 14)) 11 ((upd F 10 (F 14)) 15)) 12 ((upd (upd F 10 (F 14)) 11 ((upd F 10 (F 14)) 15)) 16)) 17)) (zrw A 18 (va_cpy (A 21) (A 18) ((0 : Int32)).toNatClampNeg ((0 : Int32)).toNatClampNeg ((10 : Int32)).toNatClampNeg)) T) H locs := ⟨h1, h2, h3⟩
  exact z_retv S w hr hlk dX6_become_47 (Option.some.inj h).symm
set_option maxHeartbeats 4000000 in
set_option maxRecDepth 100000 in
theorem c_X6_become_3_20 (l : Launch) (D : va_G) (cs : Nat → ClassId) (ad : Nat → Nat) (F : ZF) (A : ZA) (T : Int64) (q : ZS) (h : f_X6_become_3_20 F A T = some q) : zMv l D cs (XWc cs ad 10 11) yX6_become cX6_become 2 none rm_X6_become ([.ref (ad 3), .ref (ad 20)] : List Value) F A T q := by
  refine z_enterv (by decide) (Nat.le_of_ble_eq_true rfl) ?_
  intro p e s m below meth c A0 ls S K w hA hr hlk hl
  have S : CallFix p m c cX6_become 2 s ([.ref (ad 3), .ref (ad 20)] : List Value).toArray zWs RX6 := S
  have hl : lv_has ls 2 [(0, .ref (ad 3)), (1, .ref (ad 20))] := hl
  unfold f_X6_become_3_20 at h
  refine lv_aload_n S.1 S.2.1 dX6_become_0 rfl (lv_at hl 0 rfl) ?_
  refine lv_aload_n S.1 S.2.1 dX6_become_1 rfl (lv_at hl 1 rfl) ?_
  refine gX_20_0 S K w w152 dX6_become_2 ?_
  refine pX_3_0 S K w w152 dX6_become_5 (fun H locs w => ?_)
  refine lv_aload_n S.1 S.2.1 dX6_become_8 rfl (lv_at hl 0 rfl) ?_
  refine lv_aload_n S.1 S.2.1 dX6_become_9 rfl (lv_at hl 1 rfl) ?_
  refine gX_20_1 S K w w155 dX6_become_10 ?_
  refine pX_3_1 S K w w155 dX6_become_13 (fun H locs w => ?_)
  refine lv_aload_n S.1 S.2.1 dX6_become_16 rfl (lv_at hl 0 rfl) ?_
  refine lv_aload_n S.1 S.2.1 dX6_become_17 rfl (lv_at hl 1 rfl) ?_
  refine gX_20_2 S K w w157 dX6_become_18 ?_
  refine pX_3_2 S K w w157 dX6_become_21 (fun H locs w => ?_)
  refine lv_aload_n S.1 S.2.1 dX6_become_24 rfl (lv_at hl 0 rfl) ?_
  refine lv_aload_n S.1 S.2.1 dX6_become_25 rfl (lv_at hl 1 rfl) ?_
  refine gX_20_3 S K w w159 dX6_become_26 ?_
  refine pX_3_3 S K w w159 dX6_become_29 (fun H locs w => ?_)
  refine lv_aload_n S.1 S.2.1 dX6_become_32 rfl (lv_at hl 1 rfl) ?_
  refine gX_20_4 S K w w161 dX6_become_33 ?_
  refine lv_iconst (v := 0) S.1 S.2.1 dX6_become_36 (by decide) ?_
  refine lv_aload_n S.1 S.2.1 dX6_become_37 rfl (lv_at hl 0 rfl) ?_
  refine gX_3_4 S K w w161 dX6_become_38 ?_
  refine lv_iconst (v := 0) S.1 S.2.1 dX6_become_41 (by decide) ?_
  refine lv_bipush (v := 10) S.1 S.2.1 dX6_become_42 (by decide) ?_
  refine va_copyi S.1 S.2.1 (S.2.2.1.trans hl.1.symm) S.2.2.2.1 (S.2.2.2.2 _ w508) (S.2.2.2.2 _ w510) (S.2.2.2.2 _ w509) (S.2.2.2.2 _ w70) K.1 w.1 w.2.1 w.2.2 22 18 0 0 (f := A 22) (g := A 18) (n0 := 10) (n1 := 10) rfl rfl rfl rfl rfl (by decide) (by decide) (by decide) (by decide) (by decide) (fun _ _ => rfl) (Nat.le_of_ble_eq_true rfl) (Nat.le_of_ble_eq_true rfl) dX6_become_44 (fun H locs h1 h2 h3 => ?_)
  have w : ZW D A0 s.heap (XWc cs ad 10 11 (upd (upd (upd (upd F 10 (F 18)) 11 ((upd F 10 (F 18)) 19)) 12 ((upd (upd F 10 (F 18)) 11 ((upd F 10 (F 18)) 19)) 20)) 13 ((upd (upd (upd F 10 (F 18)) 11 ((upd F 10 (F 18)) 19)) 12 ((upd (upd F 10 (F 18)) 11 ((upd F 10 (F 18)) 19)) 20)) 21)) (zrw A 18 (va_cpy (A 22) (A 18) ((0 : Int32)).toNatClampNeg ((0 : Int32)).toNatClampNeg ((10 : Int32)).toNatClampNeg)) T) H locs := ⟨h1, h2, h3⟩
  exact z_retv S w hr hlk dX6_become_47 (Option.some.inj h).symm
set_option maxHeartbeats 4000000 in
set_option maxRecDepth 100000 in
theorem c_X10_back (l : Launch) (D : va_G) (cs : Nat → ClassId) (ad : Nat → Nat) (F : ZF) (A : ZA) (T : Int64) (a0 : Int32) (q : (Int32 × ZS)) (h : f_X10_back a0 F A T = some q) : zMi l D cs (XWc cs ad 10 11) yX10_back cX10_back 2 (some .int) rm_X10_back ([.ref (ad 0), .int a0] : List Value) F A T q True := by
  refine z_enteri (by decide) (Nat.le_of_ble_eq_true rfl) ?_
  intro p e s m below meth c A0 ls S K w hA hr hlk hl
  have S : CallFix p m c cX10_back 2 s ([.ref (ad 0), .int a0] : List Value).toArray zWs RX10 := S
  have hl : lv_has ls 2 [(0, .ref (ad 0)), (1, .int a0)] := hl
  unfold f_X10_back at h
  refine lv_iload_n S.1 S.2.1 dX10_back_0 rfl (lv_at hl 1 rfl) ?_
  refine lv_iconst (v := 0) S.1 S.2.1 dX10_back_1 (by decide) ?_
  refine lv_iconst (v := 1) S.1 S.2.1 dX10_back_2 (by decide) ?_
  refine z_callSr S K w hA (c_X10_within l D cs ad F A T a0 (0 : Int32) (1 : Int32) (f_X10_within a0 (0 : Int32) (1 : Int32)) rfl) (cw_X10_90 S.2.2.2.2 ⟨Nat.le_of_ble_eq_true rfl, Nat.le_of_ble_eq_true rfl⟩) rfl hl.1 rfl (Nat.le_of_ble_eq_true rfl) ⟨Nat.zero_le _, Nat.zero_le _⟩ dX10_back_3 (fun b1 H locs w => ?_)
  refine lv_if_ne (tgt := 11) S.1 S.2.1 dX10_back_6 (by decide) (fun c2 => ?_) (fun c2 => ?_)
  · have h := og_f c2 h
    refine lv_aload_n S.1 S.2.1 dX10_back_11 rfl (lv_at hl 0 rfl) ?_
    refine gX_0_4 S K w w317 dX10_back_12 ?_
    refine lv_iload_n S.1 S.2.1 dX10_back_15 rfl (lv_at hl 1 rfl) ?_
    obtain ⟨g3, h⟩ := og_g h
    refine aX_5 S K w g3 dX10_back_16 ?_
    refine lv_if_ne (tgt := 23) S.1 S.2.1 dX10_back_17 (by decide) (fun c4 => ?_) (fun c4 => ?_)
    · have h := og_f c4 h
      refine lv_aload_n S.1 S.2.1 dX10_back_23 rfl (lv_at hl 0 rfl) ?_
      refine gX_0_2 S K w w314 dX10_back_24 ?_
      refine lv_aload_n S.1 S.2.1 dX10_back_27 rfl (lv_at hl 0 rfl) ?_
      refine gX_0_3 S K w w316 dX10_back_28 ?_
      refine lv_iload_n S.1 S.2.1 dX10_back_31 rfl (lv_at hl 1 rfl) ?_
      by_cases c5 : a0 = (0 : Int32)
      · have h := og_t c5 h
        refine rX_4_0 S K w c5 dX10_back_32 ?_
        obtain ⟨q6, e7, h⟩ := og_b h
        refine z_callVv S K w hA (c_X6_become_3_19 l D cs ad F A T q6 e7) (cw_X10_251 S.2.2.2.2 ⟨Nat.le_of_ble_eq_true rfl, Nat.le_of_ble_eq_true rfl⟩) (z_recv K w 3 6 rfl rfl) rfl hl.1 rfl (Nat.le_of_ble_eq_true rfl) ⟨Nat.zero_le _, Nat.zero_le _⟩ dX10_back_33 (fun H locs w => ?_)
        refine lv_aload_n S.1 S.2.1 dX10_back_36 rfl (lv_at hl 0 rfl) ?_
        obtain ⟨q9, e10, h⟩ := og_b h
        refine z_callVi S K w hA (c_X10_caseNow l D cs ad q6.1 q6.2.1 q6.2.2 q9 e10) (cw_X10_167 S.2.2.2.2 ⟨Nat.le_of_ble_eq_true rfl, Nat.le_of_ble_eq_true rfl⟩) (z_recv K w 0 10 rfl rfl) rfl hl.1 rfl (Nat.le_of_ble_eq_true rfl) ⟨Nat.zero_le _, Nat.zero_le _⟩ dX10_back_37 (fun b8 H locs w => ?_)
        exact z_reti S w hr hlk dX10_back_40 trivial (Option.some.inj h).symm
      · have h := og_f c5 h
        by_cases c11 : a0 = (1 : Int32)
        · have h := og_t c11 h
          refine rX_4_1 S K w c11 dX10_back_32 ?_
          obtain ⟨q12, e13, h⟩ := og_b h
          refine z_callVv S K w hA (c_X6_become_3_20 l D cs ad F A T q12 e13) (cw_X10_251 S.2.2.2.2 ⟨Nat.le_of_ble_eq_true rfl, Nat.le_of_ble_eq_true rfl⟩) (z_recv K w 3 6 rfl rfl) rfl hl.1 rfl (Nat.le_of_ble_eq_true rfl) ⟨Nat.zero_le _, Nat.zero_le _⟩ dX10_back_33 (fun H locs w => ?_)
          refine lv_aload_n S.1 S.2.1 dX10_back_36 rfl (lv_at hl 0 rfl) ?_
          obtain ⟨q15, e16, h⟩ := og_b h
          refine z_callVi S K w hA (c_X10_caseNow l D cs ad q12.1 q12.2.1 q12.2.2 q15 e16) (cw_X10_167 S.2.2.2.2 ⟨Nat.le_of_ble_eq_true rfl, Nat.le_of_ble_eq_true rfl⟩) (z_recv K w 0 10 rfl rfl) rfl hl.1 rfl (Nat.le_of_ble_eq_true rfl) ⟨Nat.zero_le _, Nat.zero_le _⟩ dX10_back_37 (fun b14 H locs w => ?_)
          exact z_reti S w hr hlk dX10_back_40 trivial (Option.some.inj h).symm
        · have h := og_f c11 h
          cases h
    · have h := og_t c4 h
      refine lv_bipush (v := -2) S.1 S.2.1 dX10_back_20 (by decide) ?_
      exact z_reti S w hr hlk dX10_back_22 trivial (Option.some.inj h).symm
  · have h := og_t c2 h
    refine lv_iconst (v := -1) S.1 S.2.1 dX10_back_9 (by decide) ?_
    exact z_reti S w hr hlk dX10_back_10 trivial (Option.some.inj h).symm
set_option maxHeartbeats 4000000 in
set_option maxRecDepth 100000 in
theorem c_X10_count (l : Launch) (D : va_G) (cs : Nat → ClassId) (ad : Nat → Nat) (F : ZF) (A : ZA) (T : Int64) (a0 : Int32) (q : Int32) (h : f_X10_count a0 F A T = q) : zMi l D cs (XWc cs ad 10 11) yX10_count cX10_count 2 (some .int) rm_X10_count ([.ref (ad 0), .int a0] : List Value) F A T ((q, F, A, T) : Int32 × ZS) True := by
  refine z_enteri (by decide) (Nat.le_of_ble_eq_true rfl) ?_
  intro p e s m below meth c A0 ls S K w hA hr hlk hl
  have S : CallFix p m c cX10_count 2 s ([.ref (ad 0), .int a0] : List Value).toArray zWs RX10 := S
  have hl : lv_has ls 2 [(0, .ref (ad 0)), (1, .int a0)] := hl
  unfold f_X10_count at h
  refine lv_iload_n S.1 S.2.1 dX10_count_0 rfl (lv_at hl 1 rfl) ?_
  by_cases c1 : a0 = (0 : Int32)
  · have h := og_t c1 h
    refine lv_tableIn (tgt := 40) S.1 S.2.1 dX10_count_1 (by rw [c1]; decide) (by rw [c1]; decide) (off := 39) (by rw [c1]; decide) (by decide) ?_
    refine lv_aload_n S.1 S.2.1 dX10_count_40 rfl (lv_at hl 0 rfl) ?_
    refine gX_0_11 S K w w330 dX10_count_41 ?_
    refine gX_10_0 S K w w227 dX10_count_44 ?_
    exact z_reti S w hr hlk dX10_count_47 trivial (by rw [← h])
  · have h := og_f c1 h
    by_cases c2 : a0 = (1 : Int32)
    · have h := og_t c2 h
      refine lv_tableIn (tgt := 48) S.1 S.2.1 dX10_count_1 (by rw [c2]; decide) (by rw [c2]; decide) (off := 47) (by rw [c2]; decide) (by decide) ?_
      refine lv_aload_n S.1 S.2.1 dX10_count_48 rfl (lv_at hl 0 rfl) ?_
      refine gX_0_11 S K w w330 dX10_count_49 ?_
      refine gX_10_1 S K w w231 dX10_count_52 ?_
      exact z_reti S w hr hlk dX10_count_55 trivial (by rw [← h])
    · have h := og_f c2 h
      by_cases c3 : a0 = (2 : Int32)
      · have h := og_t c3 h
        refine lv_tableIn (tgt := 56) S.1 S.2.1 dX10_count_1 (by rw [c3]; decide) (by rw [c3]; decide) (off := 55) (by rw [c3]; decide) (by decide) ?_
        refine lv_aload_n S.1 S.2.1 dX10_count_56 rfl (lv_at hl 0 rfl) ?_
        refine gX_0_11 S K w w330 dX10_count_57 ?_
        refine gX_10_2 S K w w236 dX10_count_60 ?_
        exact z_reti S w hr hlk dX10_count_63 trivial (by rw [← h])
      · have h := og_f c3 h
        by_cases c4 : a0 = (3 : Int32)
        · have h := og_t c4 h
          refine lv_tableIn (tgt := 64) S.1 S.2.1 dX10_count_1 (by rw [c4]; decide) (by rw [c4]; decide) (off := 63) (by rw [c4]; decide) (by decide) ?_
          refine lv_aload_n S.1 S.2.1 dX10_count_64 rfl (lv_at hl 0 rfl) ?_
          refine gX_0_9 S K w w322 dX10_count_65 ?_
          exact z_reti S w hr hlk dX10_count_68 trivial (by rw [← h])
        · have h := og_f c4 h
          by_cases c5 : a0 = (4 : Int32)
          · have h := og_t c5 h
            refine lv_tableIn (tgt := 69) S.1 S.2.1 dX10_count_1 (by rw [c5]; decide) (by rw [c5]; decide) (off := 68) (by rw [c5]; decide) (by decide) ?_
            refine lv_aload_n S.1 S.2.1 dX10_count_69 rfl (lv_at hl 0 rfl) ?_
            refine gX_0_2 S K w w314 dX10_count_70 ?_
            refine gX_3_3 S K w w160 dX10_count_73 ?_
            exact z_reti S w hr hlk dX10_count_76 trivial (by rw [← h])
          · have h := og_f c5 h
            by_cases c6 : a0 = (5 : Int32)
            · have h := og_t c6 h
              refine lv_tableIn (tgt := 77) S.1 S.2.1 dX10_count_1 (by rw [c6]; decide) (by rw [c6]; decide) (off := 76) (by rw [c6]; decide) (by decide) ?_
              refine lv_aload_n S.1 S.2.1 dX10_count_77 rfl (lv_at hl 0 rfl) ?_
              refine gX_0_0 S K w w311 dX10_count_78 ?_
              refine gX_1_1 S K w w87 dX10_count_81 ?_
              exact z_reti S w hr hlk dX10_count_84 trivial (by rw [← h])
            · have h := og_f c6 h
              refine lv_tableOut (tgt := 85) S.1 S.2.1 dX10_count_1 (by have := lv_neT (k := (0 : Int32)) (a := 0) c1 (by decide); have := lv_neT (k := (1 : Int32)) (a := 1) c2 (by decide); have := lv_neT (k := (2 : Int32)) (a := 2) c3 (by decide); have := lv_neT (k := (3 : Int32)) (a := 3) c4 (by decide); have := lv_neT (k := (4 : Int32)) (a := 4) c5 (by decide); have := lv_neT (k := (5 : Int32)) (a := 5) c6 (by decide); omega) (by decide) ?_
              refine lv_iconst (v := -1) S.1 S.2.1 dX10_count_85 (by decide) ?_
              exact z_reti S w hr hlk dX10_count_86 trivial (by rw [← h])
set_option maxHeartbeats 4000000 in
set_option maxRecDepth 100000 in
theorem c_X10_trace (l : Launch) (D : va_G) (cs : Nat → ClassId) (ad : Nat → Nat) (F : ZF) (A : ZA) (T : Int64) (q : Int64) (h : f_X10_trace F A T = q) : zMl l D cs (XWc cs ad 10 11) yX10_trace cX10_trace 1 (some .long) rm_X10_trace ([.ref (ad 0)] : List Value) F A T ((q, F, A, T) : Int64 × ZS) := by
  refine z_enterl (by decide) (Nat.le_of_ble_eq_true rfl) ?_
  intro p e s m below meth c A0 ls S K w hA hr hlk hl
  have S : CallFix p m c cX10_trace 1 s ([.ref (ad 0)] : List Value).toArray zWs RX10 := S
  have hl : lv_has ls 1 [(0, .ref (ad 0))] := hl
  unfold f_X10_trace at h
  refine lv_aload_n S.1 S.2.1 dX10_trace_0 rfl (lv_at hl 0 rfl) ?_
  refine gX_0_10 S K w w329 dX10_trace_1 ?_
  exact z_retl S w hr hlk dX10_trace_4 (by rw [← h])
