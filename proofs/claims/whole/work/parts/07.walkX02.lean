set_option maxHeartbeats 4000000 in
set_option maxRecDepth 100000 in
theorem c_X10_innocent (l : Launch) (D : va_G) (cs : Nat → ClassId) (ad : Nat → Nat) (F : ZF) (A : ZA) (T : Int64) (a0 : Int32) (q : (Int32 × ZS)) (h : f_X10_innocent a0 F A T = some q) : zMi l D cs (XWc cs ad 10 11) yX10_innocent cX10_innocent 4 (some .int) rm_X10_innocent ([.ref (ad 0), .int a0] : List Value) F A T q True := by
  refine z_enteri (by decide) (Nat.le_of_ble_eq_true rfl) ?_
  intro p e s m below meth c A0 ls S K w hA hr hlk hl
  have S : CallFix p m c cX10_innocent 4 s ([.ref (ad 0), .int a0] : List Value).toArray zWs RX10 := S
  have hl : lv_has ls 4 [(0, .ref (ad 0)), (1, .int a0)] := hl
  unfold f_X10_innocent at h
  have j32 : ∀ (n32 : Nat) (x1 x2 x3 : Int32) (F : ZF) (A : ZA) (T : Int64), f_X10_innocent_32 n32 x1 x2 x3 F A T = some q → ∀ (H : Heap) (locs : List Loc) (ls : Array Slot), lv_has ls 4 [(0, .ref (ad 0)), (1, .int x1), (2, .int x2), (3, .int x3)] → ZW D A0 s.heap (XWc cs ad 10 11 F A T) H locs → W p l e rm_X10_innocent s m ([.ref (ad 0), .int a0] : List Value).toArray below meth c H locs 0 0 (zQi (XWc cs ad 10 11) D A0 below ([.ref (ad 0), .int a0] : List Value) s q True) (F0 m 32 ls []) := by
    intro n32
    induction n32 with
    | zero =>
      intro x1 x2 x3 F A T h H locs ls hl w
      have h : (none : Option (Int32 × ZS)) = some q := h
      cases h
    | succ n32 ih32 =>
      intro x1 x2 x3 F A T h H locs ls hl w
      rw [f_X10_innocent_32_s] at h
      refine lv_iload_n S.1 S.2.1 dX10_innocent_32 rfl (lv_at hl 3 rfl) ?_
      refine lv_iconst (v := 1) S.1 S.2.1 dX10_innocent_33 (by decide) ?_
      refine lv_aload_n S.1 S.2.1 dX10_innocent_34 rfl (lv_at hl 0 rfl) ?_
      refine gX_0_11 S K w w330 dX10_innocent_35 ?_
      refine gX_10_1 S K w w231 dX10_innocent_38 ?_
      refine lv_ishl S.1 S.2.1 dX10_innocent_41 ?_
      refine lv_icmp_ge (tgt := 70) S.1 S.2.1 dX10_innocent_42 (by decide) (fun c1 => ?_) (fun c1 => ?_)
      · have h := og_t c1 h
        refine lv_iload_n S.1 S.2.1 dX10_innocent_70 rfl (lv_at hl 2 rfl) ?_
        exact z_reti S w hr hlk dX10_innocent_71 trivial (Option.some.inj h).symm
      · have h := og_f c1 h
        refine lv_aload_n S.1 S.2.1 dX10_innocent_45 rfl (lv_at hl 0 rfl) ?_
        refine gX_0_1 S K w w312 dX10_innocent_46 ?_
        refine lv_aload_n S.1 S.2.1 dX10_innocent_49 rfl (lv_at hl 0 rfl) ?_
        refine gX_0_11 S K w w330 dX10_innocent_50 ?_
        refine lv_iload_n S.1 S.2.1 dX10_innocent_53 rfl (lv_at hl 3 rfl) ?_
        refine lv_iload_n S.1 S.2.1 dX10_innocent_54 rfl (lv_at hl 1 rfl) ?_
        obtain ⟨q3, e4, h⟩ := og_b h
        refine z_callVr S K w hA (c_X5_heldBy l D cs ad F A T x3 x1 q3 e4) (cw_X10_243 S.2.2.2.2 ⟨Nat.le_of_ble_eq_true rfl, Nat.le_of_ble_eq_true rfl⟩) (z_recv K w 2 5 rfl rfl) rfl hl.1 rfl (Nat.le_of_ble_eq_true rfl) ⟨Nat.zero_le _, Nat.zero_le _⟩ dX10_innocent_55 (fun b2 H locs w => ?_)
        refine lv_if_ne (tgt := 64) S.1 S.2.1 dX10_innocent_58 (by decide) (fun c5 => ?_) (fun c5 => ?_)
        · have h := og_f c5 h
          refine lv_iinc (v := (x3 + (1 : Int32))) (lv' := [(3, .int (x3 + (1 : Int32))), (0, .ref (ad 0)), (1, .int x1), (2, .int x2)]) S.1 S.2.1 dX10_innocent_64 hl (k := 3) rfl rfl (by decide) rfl (fun ls hl => ?_)
          refine lv_goto (tgt := 32) S.1 S.2.1 dX10_innocent_67 (by decide) ?_
          exact ih32 _ _ _ _ _ _ h _ _ _ (lv_sub hl [1, 2, 3, 0] rfl) w
        · have h := og_t c5 h
          refine lv_iinc (v := (x2 + (1 : Int32))) (lv' := [(2, .int (x2 + (1 : Int32))), (0, .ref (ad 0)), (1, .int x1), (3, .int x3)]) S.1 S.2.1 dX10_innocent_61 hl (k := 2) rfl rfl (by decide) rfl (fun ls hl => ?_)
          refine lv_iinc (v := (x3 + (1 : Int32))) (lv' := [(3, .int (x3 + (1 : Int32))), (2, .int (x2 + (1 : Int32))), (0, .ref (ad 0)), (1, .int x1)]) S.1 S.2.1 dX10_innocent_64 hl (k := 3) rfl rfl (by decide) rfl (fun ls hl => ?_)
          refine lv_goto (tgt := 32) S.1 S.2.1 dX10_innocent_67 (by decide) ?_
          exact ih32 _ _ _ _ _ _ h _ _ _ (lv_sub hl [2, 3, 1, 0] rfl) w
  refine lv_aload_n S.1 S.2.1 dX10_innocent_0 rfl (lv_at hl 0 rfl) ?_
  refine lv_iload_n S.1 S.2.1 dX10_innocent_1 rfl (lv_at hl 1 rfl) ?_
  refine z_callVr S K w hA (c_X10_isSuspect l D cs ad F A T a0 (f_X10_isSuspect a0 F A T) rfl) (cw_X10_107 S.2.2.2.2 ⟨Nat.le_of_ble_eq_true rfl, Nat.le_of_ble_eq_true rfl⟩) (z_recv K w 0 10 rfl rfl) rfl hl.1 rfl (Nat.le_of_ble_eq_true rfl) ⟨Nat.zero_le _, Nat.zero_le _⟩ dX10_innocent_2 (fun b6 H locs w => ?_)
  refine lv_if_ne (tgt := 10) S.1 S.2.1 dX10_innocent_5 (by decide) (fun c7 => ?_) (fun c7 => ?_)
  · have h := og_f c7 h
    refine lv_aload_n S.1 S.2.1 dX10_innocent_10 rfl (lv_at hl 0 rfl) ?_
    refine gX_0_1 S K w w312 dX10_innocent_11 ?_
    refine lv_aload_n S.1 S.2.1 dX10_innocent_14 rfl (lv_at hl 0 rfl) ?_
    refine gX_0_11 S K w w330 dX10_innocent_15 ?_
    refine lv_aload_n S.1 S.2.1 dX10_innocent_18 rfl (lv_at hl 0 rfl) ?_
    refine gX_0_2 S K w w314 dX10_innocent_19 ?_
    refine gX_3_1 S K w w156 dX10_innocent_22 ?_
    obtain ⟨q8, e9, h⟩ := og_b h
    refine z_callVv S K w hA (c_X5_countHours l D cs ad F A T (F 11) q8 e9) (cw_X10_235 S.2.2.2.2 ⟨Nat.le_of_ble_eq_true rfl, Nat.le_of_ble_eq_true rfl⟩) (z_recv K w 2 5 rfl rfl) rfl hl.1 rfl (Nat.le_of_ble_eq_true rfl) ⟨Nat.zero_le _, Nat.zero_le _⟩ dX10_innocent_25 (fun H locs w => ?_)
    refine lv_iconst (v := 0) S.1 S.2.1 dX10_innocent_28 (by decide) ?_
    refine lv_istore_n (lv' := [(2, .int (0 : Int32)), (0, .ref (ad 0)), (1, .int a0)]) S.1 S.2.1 dX10_innocent_29 rfl hl (by decide) rfl (fun ls hl => ?_)
    refine lv_iconst (v := 0) S.1 S.2.1 dX10_innocent_30 (by decide) ?_
    refine lv_istore_n (lv' := [(3, .int (0 : Int32)), (2, .int (0 : Int32)), (0, .ref (ad 0)), (1, .int a0)]) S.1 S.2.1 dX10_innocent_31 rfl hl (by decide) rfl (fun ls hl => ?_)
    exact j32 1000 _ _ _ _ _ _ h _ _ _ (lv_sub hl [2, 3, 1, 0] rfl) w
  · have h := og_t c7 h
    refine lv_iconst (v := -1) S.1 S.2.1 dX10_innocent_8 (by decide) ?_
    exact z_reti S w hr hlk dX10_innocent_9 trivial (Option.some.inj h).symm
set_option maxHeartbeats 4000000 in
set_option maxRecDepth 100000 in
theorem c_X6_become_19_3 (l : Launch) (D : va_G) (cs : Nat → ClassId) (ad : Nat → Nat) (F : ZF) (A : ZA) (T : Int64) (q : ZS) (h : f_X6_become_19_3 F A T = some q) : zMv l D cs (XWc cs ad 10 11) yX6_become cX6_become 2 none rm_X6_become ([.ref (ad 19), .ref (ad 3)] : List Value) F A T q := by
  refine z_enterv (by decide) (Nat.le_of_ble_eq_true rfl) ?_
  intro p e s m below meth c A0 ls S K w hA hr hlk hl
  have S : CallFix p m c cX6_become 2 s ([.ref (ad 19), .ref (ad 3)] : List Value).toArray zWs RX6 := S
  have hl : lv_has ls 2 [(0, .ref (ad 19)), (1, .ref (ad 3))] := hl
  unfold f_X6_become_19_3 at h
  refine lv_aload_n S.1 S.2.1 dX6_become_0 rfl (lv_at hl 0 rfl) ?_
  refine lv_aload_n S.1 S.2.1 dX6_become_1 rfl (lv_at hl 1 rfl) ?_
  refine gX_3_0 S K w w152 dX6_become_2 ?_
  refine pX_19_0 S K w w152 dX6_become_5 (fun H locs w => ?_)
  refine lv_aload_n S.1 S.2.1 dX6_become_8 rfl (lv_at hl 0 rfl) ?_
  refine lv_aload_n S.1 S.2.1 dX6_become_9 rfl (lv_at hl 1 rfl) ?_
  refine gX_3_1 S K w w155 dX6_become_10 ?_
  refine pX_19_1 S K w w155 dX6_become_13 (fun H locs w => ?_)
  refine lv_aload_n S.1 S.2.1 dX6_become_16 rfl (lv_at hl 0 rfl) ?_
  refine lv_aload_n S.1 S.2.1 dX6_become_17 rfl (lv_at hl 1 rfl) ?_
  refine gX_3_2 S K w w157 dX6_become_18 ?_
  refine pX_19_2 S K w w157 dX6_become_21 (fun H locs w => ?_)
  refine lv_aload_n S.1 S.2.1 dX6_become_24 rfl (lv_at hl 0 rfl) ?_
  refine lv_aload_n S.1 S.2.1 dX6_become_25 rfl (lv_at hl 1 rfl) ?_
  refine gX_3_3 S K w w159 dX6_become_26 ?_
  refine pX_19_3 S K w w159 dX6_become_29 (fun H locs w => ?_)
  refine lv_aload_n S.1 S.2.1 dX6_become_32 rfl (lv_at hl 1 rfl) ?_
  refine gX_3_4 S K w w161 dX6_become_33 ?_
  refine lv_iconst (v := 0) S.1 S.2.1 dX6_become_36 (by decide) ?_
  refine lv_aload_n S.1 S.2.1 dX6_become_37 rfl (lv_at hl 0 rfl) ?_
  refine gX_19_4 S K w w161 dX6_become_38 ?_
  refine lv_iconst (v := 0) S.1 S.2.1 dX6_become_41 (by decide) ?_
  refine lv_bipush (v := 10) S.1 S.2.1 dX6_become_42 (by decide) ?_
  refine va_copyi S.1 S.2.1 (S.2.2.1.trans hl.1.symm) S.2.2.2.1 (S.2.2.2.2 _ w508) (S.2.2.2.2 _ w510) (S.2.2.2.2 _ w509) (S.2.2.2.2 _ w70) K.1 w.1 w.2.1 w.2.2 18 21 0 0 (f := A 18) (g := A 21) (n0 := 10) (n1 := 10) rfl rfl rfl rfl rfl (by decide) (by decide) (by decide) (by decide) (by decide) (fun _ _ => rfl) (Nat.le_of_ble_eq_true rfl) (Nat.le_of_ble_eq_true rfl) dX6_become_44 (fun H locs h1 h2 h3 => ?_)
  have w : ZW D A0 s.heap (XWc cs ad 10 11 (upd (upd (upd (upd F 14 (F 10)) 15 ((upd F 14 (F 10)) 11)) 16 ((upd (upd F 14 (F 10)) 15 ((upd F 14 (F 10)) 11)) 12)) 17 ((upd (upd (upd F 14 (F 10)) 15 ((upd F 14 (F 10)) 11)) 16 ((upd (upd F 14 (F 10)) 15 ((upd F 14 (F 10)) 11)) 12)) 13)) (zrw A 21 (va_cpy (A 18) (A 21) ((0 : Int32)).toNatClampNeg ((0 : Int32)).toNatClampNeg ((10 : Int32)).toNatClampNeg)) T) H locs := ⟨h1, h2, h3⟩
  exact z_retv S w hr hlk dX6_become_47 (Option.some.inj h).symm
set_option maxHeartbeats 4000000 in
set_option maxRecDepth 100000 in
theorem c_X6_become_20_3 (l : Launch) (D : va_G) (cs : Nat → ClassId) (ad : Nat → Nat) (F : ZF) (A : ZA) (T : Int64) (q : ZS) (h : f_X6_become_20_3 F A T = some q) : zMv l D cs (XWc cs ad 10 11) yX6_become cX6_become 2 none rm_X6_become ([.ref (ad 20), .ref (ad 3)] : List Value) F A T q := by
  refine z_enterv (by decide) (Nat.le_of_ble_eq_true rfl) ?_
  intro p e s m below meth c A0 ls S K w hA hr hlk hl
  have S : CallFix p m c cX6_become 2 s ([.ref (ad 20), .ref (ad 3)] : List Value).toArray zWs RX6 := S
  have hl : lv_has ls 2 [(0, .ref (ad 20)), (1, .ref (ad 3))] := hl
  unfold f_X6_become_20_3 at h
  refine lv_aload_n S.1 S.2.1 dX6_become_0 rfl (lv_at hl 0 rfl) ?_
  refine lv_aload_n S.1 S.2.1 dX6_become_1 rfl (lv_at hl 1 rfl) ?_
  refine gX_3_0 S K w w152 dX6_become_2 ?_
  refine pX_20_0 S K w w152 dX6_become_5 (fun H locs w => ?_)
  refine lv_aload_n S.1 S.2.1 dX6_become_8 rfl (lv_at hl 0 rfl) ?_
  refine lv_aload_n S.1 S.2.1 dX6_become_9 rfl (lv_at hl 1 rfl) ?_
  refine gX_3_1 S K w w155 dX6_become_10 ?_
  refine pX_20_1 S K w w155 dX6_become_13 (fun H locs w => ?_)
  refine lv_aload_n S.1 S.2.1 dX6_become_16 rfl (lv_at hl 0 rfl) ?_
  refine lv_aload_n S.1 S.2.1 dX6_become_17 rfl (lv_at hl 1 rfl) ?_
  refine gX_3_2 S K w w157 dX6_become_18 ?_
  refine pX_20_2 S K w w157 dX6_become_21 (fun H locs w => ?_)
  refine lv_aload_n S.1 S.2.1 dX6_become_24 rfl (lv_at hl 0 rfl) ?_
  refine lv_aload_n S.1 S.2.1 dX6_become_25 rfl (lv_at hl 1 rfl) ?_
  refine gX_3_3 S K w w159 dX6_become_26 ?_
  refine pX_20_3 S K w w159 dX6_become_29 (fun H locs w => ?_)
  refine lv_aload_n S.1 S.2.1 dX6_become_32 rfl (lv_at hl 1 rfl) ?_
  refine gX_3_4 S K w w161 dX6_become_33 ?_
  refine lv_iconst (v := 0) S.1 S.2.1 dX6_become_36 (by decide) ?_
  refine lv_aload_n S.1 S.2.1 dX6_become_37 rfl (lv_at hl 0 rfl) ?_
  refine gX_20_4 S K w w161 dX6_become_38 ?_
  refine lv_iconst (v := 0) S.1 S.2.1 dX6_become_41 (by decide) ?_
  refine lv_bipush (v := 10) S.1 S.2.1 dX6_become_42 (by decide) ?_
  refine va_copyi S.1 S.2.1 (S.2.2.1.trans hl.1.symm) S.2.2.2.1 (S.2.2.2.2 _ w508) (S.2.2.2.2 _ w510) (S.2.2.2.2 _ w509) (S.2.2.2.2 _ w70) K.1 w.1 w.2.1 w.2.2 18 22 0 0 (f := A 18) (g := A 22) (n0 := 10) (n1 := 10) rfl rfl rfl rfl rfl (by decide) (by decide) (by decide) (by decide) (by decide) (fun _ _ => rfl) (Nat.le_of_ble_eq_true rfl) (Nat.le_of_ble_eq_true rfl) dX6_become_44 (fun H locs h1 h2 h3 => ?_)
  have w : ZW D A0 s.heap (XWc cs ad 10 11 (upd (upd (upd (upd F 18 (F 10)) 19 ((upd F 18 (F 10)) 11)) 20 ((upd (upd F 18 (F 10)) 19 ((upd F 18 (F 10)) 11)) 12)) 21 ((upd (upd (upd F 18 (F 10)) 19 ((upd F 18 (F 10)) 11)) 20 ((upd (upd F 18 (F 10)) 19 ((upd F 18 (F 10)) 11)) 12)) 13)) (zrw A 22 (va_cpy (A 18) (A 22) ((0 : Int32)).toNatClampNeg ((0 : Int32)).toNatClampNeg ((10 : Int32)).toNatClampNeg)) T) H locs := ⟨h1, h2, h3⟩
  exact z_retv S w hr hlk dX6_become_47 (Option.some.inj h).symm
set_option maxHeartbeats 4000000 in
set_option maxRecDepth 100000 in
theorem c_X10_keep (l : Launch) (D : va_G) (cs : Nat → ClassId) (ad : Nat → Nat) (F : ZF) (A : ZA) (T : Int64) (a0 : Int32) (q : (Int32 × ZS)) (h : f_X10_keep a0 F A T = some q) : zMi l D cs (XWc cs ad 10 11) yX10_keep cX10_keep 2 (some .int) rm_X10_keep ([.ref (ad 0), .int a0] : List Value) F A T q True := by
  refine z_enteri (by decide) (Nat.le_of_ble_eq_true rfl) ?_
  intro p e s m below meth c A0 ls S K w hA hr hlk hl
  have S : CallFix p m c cX10_keep 2 s ([.ref (ad 0), .int a0] : List Value).toArray zWs RX10 := S
  have hl : lv_has ls 2 [(0, .ref (ad 0)), (1, .int a0)] := hl
  unfold f_X10_keep at h
  refine lv_iload_n S.1 S.2.1 dX10_keep_0 rfl (lv_at hl 1 rfl) ?_
  refine lv_iconst (v := 0) S.1 S.2.1 dX10_keep_1 (by decide) ?_
  refine lv_iconst (v := 1) S.1 S.2.1 dX10_keep_2 (by decide) ?_
  refine z_callSr S K w hA (c_X10_within l D cs ad F A T a0 (0 : Int32) (1 : Int32) (f_X10_within a0 (0 : Int32) (1 : Int32)) rfl) (cw_X10_90 S.2.2.2.2 ⟨Nat.le_of_ble_eq_true rfl, Nat.le_of_ble_eq_true rfl⟩) rfl hl.1 rfl (Nat.le_of_ble_eq_true rfl) ⟨Nat.zero_le _, Nat.zero_le _⟩ dX10_keep_3 (fun b1 H locs w => ?_)
  refine lv_if_ne (tgt := 11) S.1 S.2.1 dX10_keep_6 (by decide) (fun c2 => ?_) (fun c2 => ?_)
  · have h := og_f c2 h
    refine lv_aload_n S.1 S.2.1 dX10_keep_11 rfl (lv_at hl 0 rfl) ?_
    refine gX_0_3 S K w w316 dX10_keep_12 ?_
    refine lv_iload_n S.1 S.2.1 dX10_keep_15 rfl (lv_at hl 1 rfl) ?_
    by_cases c3 : a0 = (0 : Int32)
    · have h := og_t c3 h
      refine rX_4_0 S K w c3 dX10_keep_16 ?_
      refine lv_aload_n S.1 S.2.1 dX10_keep_17 rfl (lv_at hl 0 rfl) ?_
      refine gX_0_2 S K w w314 dX10_keep_18 ?_
      obtain ⟨q4, e5, h⟩ := og_b h
      refine z_callVv S K w hA (c_X6_become_19_3 l D cs ad F A T q4 e5) (cw_X10_251 S.2.2.2.2 ⟨Nat.le_of_ble_eq_true rfl, Nat.le_of_ble_eq_true rfl⟩) (z_recv K w 19 6 rfl rfl) rfl hl.1 rfl (Nat.le_of_ble_eq_true rfl) ⟨Nat.zero_le _, Nat.zero_le _⟩ dX10_keep_21 (fun H locs w => ?_)
      refine lv_aload_n S.1 S.2.1 dX10_keep_24 rfl (lv_at hl 0 rfl) ?_
      refine gX_0_4 S K w w317 dX10_keep_25 ?_
      refine lv_iload_n S.1 S.2.1 dX10_keep_28 rfl (lv_at hl 1 rfl) ?_
      refine lv_iconst (v := 1) S.1 S.2.1 dX10_keep_29 (by decide) ?_
      obtain ⟨g6, h⟩ := og_g h
      refine sX_5 S K w g6 dX10_keep_30 (fun H locs w => ?_)
      refine lv_aload_n S.1 S.2.1 dX10_keep_31 rfl (lv_at hl 0 rfl) ?_
      obtain ⟨q8, e9, h⟩ := og_b h
      refine z_callVi S K w hA (c_X10_caseNow l D cs ad q4.1 (zst q4.2.1 5 (a0).toNatClampNeg (vp_nar .boolean (1 : Int32))) q4.2.2 q8 e9) (cw_X10_167 S.2.2.2.2 ⟨Nat.le_of_ble_eq_true rfl, Nat.le_of_ble_eq_true rfl⟩) (z_recv K w 0 10 rfl rfl) rfl hl.1 rfl (Nat.le_of_ble_eq_true rfl) ⟨Nat.zero_le _, Nat.zero_le _⟩ dX10_keep_32 (fun b7 H locs w => ?_)
      exact z_reti S w hr hlk dX10_keep_35 trivial (Option.some.inj h).symm
    · have h := og_f c3 h
      by_cases c10 : a0 = (1 : Int32)
      · have h := og_t c10 h
        refine rX_4_1 S K w c10 dX10_keep_16 ?_
        refine lv_aload_n S.1 S.2.1 dX10_keep_17 rfl (lv_at hl 0 rfl) ?_
        refine gX_0_2 S K w w314 dX10_keep_18 ?_
        obtain ⟨q11, e12, h⟩ := og_b h
        refine z_callVv S K w hA (c_X6_become_20_3 l D cs ad F A T q11 e12) (cw_X10_251 S.2.2.2.2 ⟨Nat.le_of_ble_eq_true rfl, Nat.le_of_ble_eq_true rfl⟩) (z_recv K w 20 6 rfl rfl) rfl hl.1 rfl (Nat.le_of_ble_eq_true rfl) ⟨Nat.zero_le _, Nat.zero_le _⟩ dX10_keep_21 (fun H locs w => ?_)
        refine lv_aload_n S.1 S.2.1 dX10_keep_24 rfl (lv_at hl 0 rfl) ?_
        refine gX_0_4 S K w w317 dX10_keep_25 ?_
        refine lv_iload_n S.1 S.2.1 dX10_keep_28 rfl (lv_at hl 1 rfl) ?_
        refine lv_iconst (v := 1) S.1 S.2.1 dX10_keep_29 (by decide) ?_
        obtain ⟨g13, h⟩ := og_g h
        refine sX_5 S K w g13 dX10_keep_30 (fun H locs w => ?_)
        refine lv_aload_n S.1 S.2.1 dX10_keep_31 rfl (lv_at hl 0 rfl) ?_
        obtain ⟨q15, e16, h⟩ := og_b h
        refine z_callVi S K w hA (c_X10_caseNow l D cs ad q11.1 (zst q11.2.1 5 (a0).toNatClampNeg (vp_nar .boolean (1 : Int32))) q11.2.2 q15 e16) (cw_X10_167 S.2.2.2.2 ⟨Nat.le_of_ble_eq_true rfl, Nat.le_of_ble_eq_true rfl⟩) (z_recv K w 0 10 rfl rfl) rfl hl.1 rfl (Nat.le_of_ble_eq_true rfl) ⟨Nat.zero_le _, Nat.zero_le _⟩ dX10_keep_32 (fun b14 H locs w => ?_)
        exact z_reti S w hr hlk dX10_keep_35 trivial (Option.some.inj h).symm
      · have h := og_f c10 h
        cases h
  · have h := og_t c2 h
    refine lv_iconst (v := -1) S.1 S.2.1 dX10_keep_9 (by decide) ?_
    exact z_reti S w hr hlk dX10_keep_10 trivial (Option.some.inj h).symm
set_option maxHeartbeats 4000000 in
set_option maxRecDepth 100000 in
theorem c_X6_become_3_19 (l : Launch) (D : va_G) (cs : Nat → ClassId) (ad : Nat → Nat) (F : ZF) (A : ZA) (T : Int64) (q : ZS) (h : f_X6_become_3_19 F A T = some q) : zMv l D cs (XWc cs ad 10 11) yX6_become cX6_become 2 none rm_X6_become ([.ref (ad 3), .ref (ad 19)] : List Value) F A T q := by
  refine z_enterv (by decide) (Nat.le_of_ble_eq_true rfl) ?_
  intro p e s m below meth c A0 ls S K w hA hr hlk hl
  have S : CallFix p m c cX6_become 2 s ([.ref (ad 3), .ref (ad 19)] : List Value).toArray zWs RX6 := S
  have hl : lv_has ls 2 [(0, .ref (ad 3)), (1, .ref (ad 19))] := hl
  unfold f_X6_become_3_19 at h
  refine lv_aload_n S.1 S.2.1 dX6_become_0 rfl (lv_at hl 0 rfl) ?_
  refine lv_aload_n S.1 S.2.1 dX6_become_1 rfl (lv_at hl 1 rfl) ?_
  refine gX_19_0 S K w w152 dX6_become_2 ?_
  refine pX_3_0 S K w w152 dX6_become_5 (fun H locs w => ?_)
  refine lv_aload_n S.1 S.2.1 dX6_become_8 rfl (lv_at hl 0 rfl) ?_
  refine lv_aload_n S.1 S.2.1 dX6_become_9 rfl (lv_at hl 1 rfl) ?_
  refine gX_19_1 S K w w155 dX6_become_10 ?_
  refine pX_3_1 S K w w155 dX6_become_13 (fun H locs w => ?_)
  refine lv_aload_n S.1 S.2.1 dX6_become_16 rfl (lv_at hl 0 rfl) ?_
  refine lv_aload_n S.1 S.2.1 dX6_become_17 rfl (lv_at hl 1 rfl) ?_
  refine gX_19_2 S K w w157 dX6_become_18 ?_
  refine pX_3_2 S K w w157 dX6_become_21 (fun H locs w => ?_)
  refine lv_aload_n S.1 S.2.1 dX6_become_24 rfl (lv_at hl 0 rfl) ?_
  refine lv_aload_n S.1 S.2.1 dX6_become_25 rfl (lv_at hl 1 rfl) ?_
  refine gX_19_3 S K w w159 dX6_become_26 ?_
  refine pX_3_3 S K w w159 dX6_become_29 (fun H locs w => ?_)
  refine lv_aload_n S.1 S.2.1 dX6_become_32 rfl (lv_at hl 1 rfl) ?_
  refine gX_19_4 S K w w161 dX6_become_33 ?_
  refine lv_iconst (v := 0) S.1 S.2.1 dX6_become_36 (by decide) ?_
  refine lv_aload_n S.1 S.2.1 dX6_become_37 rfl (lv_at hl 0 rfl) ?_
  refine gX_3_4 S K w w161 dX6_become_38 ?_
  refine lv_iconst (v := 0) S.1 S.2.1 dX6_become_41 (by decide) ?_
  refine lv_bipush (v := 10) S.1 S.2.1 dX6_become_42 (by decide) ?_
  refine va_copyi S.1 S.2.1 (S.2.2.1.trans hl.1.symm) S.2.2.2.1 (S.2.2.2.2 _ w508) (S.2.2.2.2 _ w510) (S.2.2.2.2 _ w509) (S.2.2.2.2 _ w70) K.1 w.1 w.2.1 w.2.2 21 18 0 0 (f := A 21) (g := A 18) (n0 := 10) (n1 := 10) rfl rfl rfl rfl rfl (by decide) (by decide) (by decide) (by decide) (by decide) (fun _ _ => rfl) (Nat.le_of_ble_eq_true rfl) (Nat.le_of_ble_eq_true rfl) dX6_become_44 (fun H locs h1 h2 h3 => ?_)
  have w : ZW D A0 s.heap (XWc cs ad 10 11 (upd (upd (upd (upd F 10 (F 14)) 11 ((upd F 10 (F 14)) 15)) 12 ((upd (upd F 10 (F 14)) 11 ((upd F 10 (F 14)) 15)) 16)) 13 ((upd (upd (upd F 10 (F 14)) 11 ((upd F 10 (F 14)) 15)) 12 ((upd (upd F 10 (F 14)) 11 ((upd F 10 (F 14)) 15)) 16)) 17)) (zrw A 18 (va_cpy (A 21) (A 18) ((0 : Int32)).toNatClampNeg ((0 : Int32)).toNatClampNeg ((10 : Int32)).toNatClampNeg)) T) H locs := ⟨h1, h2, h3⟩
  exact z_retv S w hr hlk dX6_become_47 (Option.some.inj h).symm
set_option maxHeartbeats 4000000 in
set_option maxRecDepth 100000 in
theorem c_X6_become_3_20 (l : Launch) (D : va_G) (cs : Nat → ClassId) (ad : Nat → Nat) (F : ZF) (A : ZA) (T : Int64) (q : ZS) (h : f_X6_become_3_20 F A T = some q) : zMv l D cs (XWc cs ad 10 11) yX6_become cX6_become 2 none rm_X6_become ([.ref (ad 3), .ref (ad 20)] : List Value) F A T q := by
  refine z_enterv (by decide) (Nat.le_of_ble_eq_true rfl) ?_
  intro p e s m below meth c A0 ls S K w hA hr hlk hl
  have S : CallFix p m c cX6_become 2 s ([.ref (ad 3), .ref (ad 20)] : List Value).toArray zWs RX6 := S
  have hl : lv_has ls 2 [(0, .ref (ad 3)), (1, .ref (ad 20))] := hl
  unfold f_X6_become_3_20 at h
  refine lv_aload_n S.1 S.2.1 dX6_become_0 rfl (lv_at hl 0 rfl) ?_
  refine lv_aload_n S.1 S.2.1 dX6_become_1 rfl (lv_at hl 1 rfl) ?_
  refine gX_20_0 S K w w152 dX6_become_2 ?_
  refine pX_3_0 S K w w152 dX6_become_5 (fun H locs w => ?_)
  refine lv_aload_n S.1 S.2.1 dX6_become_8 rfl (lv_at hl 0 rfl) ?_
  refine lv_aload_n S.1 S.2.1 dX6_become_9 rfl (lv_at hl 1 rfl) ?_
  refine gX_20_1 S K w w155 dX6_become_10 ?_
  refine pX_3_1 S K w w155 dX6_become_13 (fun H locs w => ?_)
  refine lv_aload_n S.1 S.2.1 dX6_become_16 rfl (lv_at hl 0 rfl) ?_
  refine lv_aload_n S.1 S.2.1 dX6_become_17 rfl (lv_at hl 1 rfl) ?_
  refine gX_20_2 S K w w157 dX6_become_18 ?_
  refine pX_3_2 S K w w157 dX6_become_21 (fun H locs w => ?_)
  refine lv_aload_n S.1 S.2.1 dX6_become_24 rfl (lv_at hl 0 rfl) ?_
  refine lv_aload_n S.1 S.2.1 dX6_become_25 rfl (lv_at hl 1 rfl) ?_
  refine gX_20_3 S K w w159 dX6_become_26 ?_
  refine pX_3_3 S K w w159 dX6_become_29 (fun H locs w => ?_)
  refine lv_aload_n S.1 S.2.1 dX6_become_32 rfl (lv_at hl 1 rfl) ?_
  refine gX_20_4 S K w w161 dX6_become_33 ?_
  refine lv_iconst (v := 0) S.1 S.2.1 dX6_become_36 (by decide) ?_
  refine lv_aload_n S.1 S.2.1 dX6_become_37 rfl (lv_at hl 0 rfl) ?_
  refine gX_3_4 S K w w161 dX6_become_38 ?_
  refine lv_iconst (v := 0) S.1 S.2.1 dX6_become_41 (by decide) ?_
  refine lv_bipush (v := 10) S.1 S.2.1 dX6_become_42 (by decide) ?_
  refine va_copyi S.1 S.2.1 (S.2.2.1.trans hl.1.symm) S.2.2.2.1 (S.2.2.2.2 _ w508) (S.2.2.2.2 _ w510) (S.2.2.2.2 _ w509) (S.2.2.2.2 _ w70) K.1 w.1 w.2.1 w.2.2 22 18 0 0 (f := A 22) (g := A 18) (n0 := 10) (n1 := 10) rfl rfl rfl rfl rfl (by decide) (by decide) (by decide) (by decide) (by decide) (fun _ _ => rfl) (Nat.le_of_ble_eq_true rfl) (Nat.le_of_ble_eq_true rfl) dX6_become_44 (fun H locs h1 h2 h3 => ?_)
  have w : ZW D A0 s.heap (XWc cs ad 10 11 (upd (upd (upd (upd F 10 (F 18)) 11 ((upd F 10 (F 18)) 19)) 12 ((upd (upd F 10 (F 18)) 11 ((upd F 10 (F 18)) 19)) 20)) 13 ((upd (upd (upd F 10 (F 18)) 11 ((upd F 10 (F 18)) 19)) 12 ((upd (upd F 10 (F 18)) 11 ((upd F 10 (F 18)) 19)) 20)) 21)) (zrw A 18 (va_cpy (A 22) (A 18) ((0 : Int32)).toNatClampNeg ((0 : Int32)).toNatClampNeg ((10 : Int32)).toNatClampNeg)) T) H locs := ⟨h1, h2, h3⟩
  exact z_retv S w hr hlk dX6_become_47 (Option.some.inj h).symm
set_option maxHeartbeats 4000000 in
set_option maxRecDepth 100000 in
theorem c_X10_back (l : Launch) (D : va_G) (cs : Nat → ClassId) (ad : Nat → Nat) (F : ZF) (A : ZA) (T : Int64) (a0 : Int32) (q : (Int32 × ZS)) (h : f_X10_back a0 F A T = some q) : zMi l D cs (XWc cs ad 10 11) yX10_back cX10_back 2 (some .int) rm_X10_back ([.ref (ad 0), .int a0] : List Value) F A T q True := by
  refine z_enteri (by decide) (Nat.le_of_ble_eq_true rfl) ?_
  intro p e s m below meth c A0 ls S K w hA hr hlk hl
  have S : CallFix p m c cX10_back 2 s ([.ref (ad 0), .int a0] : List Value).toArray zWs RX10 := S
  have hl : lv_has ls 2 [(0, .ref (ad 0)), (1, .int a0)] := hl
  unfold f_X10_back at h
  refine lv_iload_n S.1 S.2.1 dX10_back_0 rfl (lv_at hl 1 rfl) ?_
  refine lv_iconst (v := 0) S.1 S.2.1 dX10_back_1 (by decide) ?_
  refine lv_iconst (v := 1) S.1 S.2.1 dX10_back_2 (by decide) ?_
  refine z_callSr S K w hA (c_X10_within l D cs ad F A T a0 (0 : Int32) (1 : Int32) (f_X10_within a0 (0 : Int32) (1 : Int32)) rfl) (cw_X10_90 S.2.2.2.2 ⟨Nat.le_of_ble_eq_true rfl, Nat.le_of_ble_eq_true rfl⟩) rfl hl.1 rfl (Nat.le_of_ble_eq_true rfl) ⟨Nat.zero_le _, Nat.zero_le _⟩ dX10_back_3 (fun b1 H locs w => ?_)
  refine lv_if_ne (tgt := 11) S.1 S.2.1 dX10_back_6 (by decide) (fun c2 => ?_) (fun c2 => ?_)
  · have h := og_f c2 h
    refine lv_aload_n S.1 S.2.1 dX10_back_11 rfl (lv_at hl 0 rfl) ?_
    refine gX_0_4 S K w w317 dX10_back_12 ?_
    refine lv_iload_n S.1 S.2.1 dX10_back_15 rfl (lv_at hl 1 rfl) ?_
    obtain ⟨g3, h⟩ := og_g h
    refine aX_5 S K w g3 dX10_back_16 ?_
    refine lv_if_ne (tgt := 23) S.1 S.2.1 dX10_back_17 (by decide) (fun c4 => ?_) (fun c4 => ?_)
    · have h := og_f c4 h
      refine lv_aload_n S.1 S.2.1 dX10_back_23 rfl (lv_at hl 0 rfl) ?_
      refine gX_0_2 S K w w314 dX10_back_24 ?_
      refine lv_aload_n S.1 S.2.1 dX10_back_27 rfl (lv_at hl 0 rfl) ?_
      refine gX_0_3 S K w w316 dX10_back_28 ?_
      refine lv_iload_n S.1 S.2.1 dX10_back_31 rfl (lv_at hl 1 rfl) ?_
      by_cases c5 : a0 = (0 : Int32)
      · have h := og_t c5 h
        refine rX_4_0 S K w c5 dX10_back_32 ?_
        obtain ⟨q6, e7, h⟩ := og_b h
        refine z_callVv S K w hA (c_X6_become_3_19 l D cs ad F A T q6 e7) (cw_X10_251 S.2.2.2.2 ⟨Nat.le_of_ble_eq_true rfl, Nat.le_of_ble_eq_true rfl⟩) (z_recv K w 3 6 rfl rfl) rfl hl.1 rfl (Nat.le_of_ble_eq_true rfl) ⟨Nat.zero_le _, Nat.zero_le _⟩ dX10_back_33 (fun H locs w => ?_)
        refine lv_aload_n S.1 S.2.1 dX10_back_36 rfl (lv_at hl 0 rfl) ?_
        obtain ⟨q9, e10, h⟩ := og_b h
        refine z_callVi S K w hA (c_X10_caseNow l D cs ad q6.1 q6.2.1 q6.2.2 q9 e10) (cw_X10_167 S.2.2.2.2 ⟨Nat.le_of_ble_eq_true rfl, Nat.le_of_ble_eq_true rfl⟩) (z_recv K w 0 10 rfl rfl) rfl hl.1 rfl (Nat.le_of_ble_eq_true rfl) ⟨Nat.zero_le _, Nat.zero_le _⟩ dX10_back_37 (fun b8 H locs w => ?_)
        exact z_reti S w hr hlk dX10_back_40 trivial (Option.some.inj h).symm
      · have h := og_f c5 h
        by_cases c11 : a0 = (1 : Int32)
        · have h := og_t c11 h
          refine rX_4_1 S K w c11 dX10_back_32 ?_
          obtain ⟨q12, e13, h⟩ := og_b h
          refine z_callVv S K w hA (c_X6_become_3_20 l D cs ad F A T q12 e13) (cw_X10_251 S.2.2.2.2 ⟨Nat.le_of_ble_eq_true rfl, Nat.le_of_ble_eq_true rfl⟩) (z_recv K w 3 6 rfl rfl) rfl hl.1 rfl (Nat.le_of_ble_eq_true rfl) ⟨Nat.zero_le _, Nat.zero_le _⟩ dX10_back_33 (fun H locs w => ?_)
          refine lv_aload_n S.1 S.2.1 dX10_back_36 rfl (lv_at hl 0 rfl) ?_
          obtain ⟨q15, e16, h⟩ := og_b h
          refine z_callVi S K w hA (c_X10_caseNow l D cs ad q12.1 q12.2.1 q12.2.2 q15 e16) (cw_X10_167 S.2.2.2.2 ⟨Nat.le_of_ble_eq_true rfl, Nat.le_of_ble_eq_true rfl⟩) (z_recv K w 0 10 rfl rfl) rfl hl.1 rfl (Nat.le_of_ble_eq_true rfl) ⟨Nat.zero_le _, Nat.zero_le _⟩ dX10_back_37 (fun b14 H locs w => ?_)
          exact z_reti S w hr hlk dX10_back_40 trivial (Option.some.inj h).symm
        · have h := og_f c11 h
          cases h
    · have h := og_t c4 h
      refine lv_bipush (v := -2) S.1 S.2.1 dX10_back_20 (by decide) ?_
      exact z_reti S w hr hlk dX10_back_22 trivial (Option.some.inj h).symm
  · have h := og_t c2 h
    refine lv_iconst (v := -1) S.1 S.2.1 dX10_back_9 (by decide) ?_
    exact z_reti S w hr hlk dX10_back_10 trivial (Option.some.inj h).symm
set_option maxHeartbeats 4000000 in
set_option maxRecDepth 100000 in
theorem c_X10_count (l : Launch) (D : va_G) (cs : Nat → ClassId) (ad : Nat → Nat) (F : ZF) (A : ZA) (T : Int64) (a0 : Int32) (q : Int32) (h : f_X10_count a0 F A T = q) : zMi l D cs (XWc cs ad 10 11) yX10_count cX10_count 2 (some .int) rm_X10_count ([.ref (ad 0), .int a0] : List Value) F A T ((q, F, A, T) : Int32 × ZS) True := by
  refine z_enteri (by decide) (Nat.le_of_ble_eq_true rfl) ?_
  intro p e s m below meth c A0 ls S K w hA hr hlk hl
  have S : CallFix p m c cX10_count 2 s ([.ref (ad 0), .int a0] : List Value).toArray zWs RX10 := S
  have hl : lv_has ls 2 [(0, .ref (ad 0)), (1, .int a0)] := hl
  unfold f_X10_count at h
  refine lv_iload_n S.1 S.2.1 dX10_count_0 rfl (lv_at hl 1 rfl) ?_
  by_cases c1 : a0 = (0 : Int32)
  · have h := og_t c1 h
    refine lv_tableIn (tgt := 40) S.1 S.2.1 dX10_count_1 (by rw [c1]; decide) (by rw [c1]; decide) (off := 39) (by rw [c1]; decide) (by decide) ?_
    refine lv_aload_n S.1 S.2.1 dX10_count_40 rfl (lv_at hl 0 rfl) ?_
    refine gX_0_11 S K w w330 dX10_count_41 ?_
    refine gX_10_0 S K w w227 dX10_count_44 ?_
    exact z_reti S w hr hlk dX10_count_47 trivial (by rw [← h])
  · have h := og_f c1 h
    by_cases c2 : a0 = (1 : Int32)
    · have h := og_t c2 h
      refine lv_tableIn (tgt := 48) S.1 S.2.1 dX10_count_1 (by rw [c2]; decide) (by rw [c2]; decide) (off := 47) (by rw [c2]; decide) (by decide) ?_
      refine lv_aload_n S.1 S.2.1 dX10_count_48 rfl (lv_at hl 0 rfl) ?_
      refine gX_0_11 S K w w330 dX10_count_49 ?_
      refine gX_10_1 S K w w231 dX10_count_52 ?_
      exact z_reti S w hr hlk dX10_count_55 trivial (by rw [← h])
    · have h := og_f c2 h
      by_cases c3 : a0 = (2 : Int32)
      · have h := og_t c3 h
        refine lv_tableIn (tgt := 56) S.1 S.2.1 dX10_count_1 (by rw [c3]; decide) (by rw [c3]; decide) (off := 55) (by rw [c3]; decide) (by decide) ?_
        refine lv_aload_n S.1 S.2.1 dX10_count_56 rfl (lv_at hl 0 rfl) ?_
        refine gX_0_11 S K w w330 dX10_count_57 ?_
        refine gX_10_2 S K w w236 dX10_count_60 ?_
        exact z_reti S w hr hlk dX10_count_63 trivial (by rw [← h])
      · have h := og_f c3 h
        by_cases c4 : a0 = (3 : Int32)
        · have h := og_t c4 h
          refine lv_tableIn (tgt := 64) S.1 S.2.1 dX10_count_1 (by rw [c4]; decide) (by rw [c4]; decide) (off := 63) (by rw [c4]; decide) (by decide) ?_
          refine lv_aload_n S.1 S.2.1 dX10_count_64 rfl (lv_at hl 0 rfl) ?_
          refine gX_0_9 S K w w322 dX10_count_65 ?_
          exact z_reti S w hr hlk dX10_count_68 trivial (by rw [← h])
        · have h := og_f c4 h
          by_cases c5 : a0 = (4 : Int32)
          · have h := og_t c5 h
            refine lv_tableIn (tgt := 69) S.1 S.2.1 dX10_count_1 (by rw [c5]; decide) (by rw [c5]; decide) (off := 68) (by rw [c5]; decide) (by decide) ?_
            refine lv_aload_n S.1 S.2.1 dX10_count_69 rfl (lv_at hl 0 rfl) ?_
            refine gX_0_2 S K w w314 dX10_count_70 ?_
            refine gX_3_3 S K w w160 dX10_count_73 ?_
            exact z_reti S w hr hlk dX10_count_76 trivial (by rw [← h])
          · have h := og_f c5 h
            by_cases c6 : a0 = (5 : Int32)
            · have h := og_t c6 h
              refine lv_tableIn (tgt := 77) S.1 S.2.1 dX10_count_1 (by rw [c6]; decide) (by rw [c6]; decide) (off := 76) (by rw [c6]; decide) (by decide) ?_
              refine lv_aload_n S.1 S.2.1 dX10_count_77 rfl (lv_at hl 0 rfl) ?_
              refine gX_0_0 S K w w311 dX10_count_78 ?_
              refine gX_1_1 S K w w87 dX10_count_81 ?_
              exact z_reti S w hr hlk dX10_count_84 trivial (by rw [← h])
            · have h := og_f c6 h
              refine lv_tableOut (tgt := 85) S.1 S.2.1 dX10_count_1 (by have := lv_neT (k := (0 : Int32)) (a := 0) c1 (by decide); have := lv_neT (k := (1 : Int32)) (a := 1) c2 (by decide); have := lv_neT (k := (2 : Int32)) (a := 2) c3 (by decide); have := lv_neT (k := (3 : Int32)) (a := 3) c4 (by decide); have := lv_neT (k := (4 : Int32)) (a := 4) c5 (by decide); have := lv_neT (k := (5 : Int32)) (a := 5) c6 (by decide); omega) (by decide) ?_
              refine lv_iconst (v := -1) S.1 S.2.1 dX10_count_85 (by decide) ?_
              exact z_reti S w hr hlk dX10_count_86 trivial (by rw [← h])
set_option maxHeartbeats 4000000 in
set_option maxRecDepth 100000 in
theorem c_X10_trace (l : Launch) (D : va_G) (cs : Nat → ClassId) (ad : Nat → Nat) (F : ZF) (A : ZA) (T : Int64) (q : Int64) (h : f_X10_trace F A T = q) : zMl l D cs (XWc cs ad 10 11) yX10_trace cX10_trace 1 (some .long) rm_X10_trace ([.ref (ad 0)] : List Value) F A T ((q, F, A, T) : Int64 × ZS) := by
  refine z_enterl (by decide) (Nat.le_of_ble_eq_true rfl) ?_
  intro p e s m below meth c A0 ls S K w hA hr hlk hl
  have S : CallFix p m c cX10_trace 1 s ([.ref (ad 0)] : List Value).toArray zWs RX10 := S
  have hl : lv_has ls 1 [(0, .ref (ad 0))] := hl
  unfold f_X10_trace at h
  refine lv_aload_n S.1 S.2.1 dX10_trace_0 rfl (lv_at hl 0 rfl) ?_
  refine gX_0_10 S K w w329 dX10_trace_1 ?_
  exact z_retl S w hr hlk dX10_trace_4 (by rw [← h])
set_option maxHeartbeats 4000000 in
set_option maxRecDepth 100000 in
theorem c_X1_beginAnew_11 (l : Launch) (D : va_G) (cs : Nat → ClassId) (ad : Nat → Nat) (F : ZF) (A : ZA) (T : Int64) (q : ZS) (h : f_X1_beginAnew_11 F A T = some q) : zMv l D cs (XWc cs ad 10 11) yX1_beginAnew cX1_beginAnew 1 none rm_X1_beginAnew ([.ref (ad 11)] : List Value) F A T q := by
  refine z_enterv (by decide) (Nat.le_of_ble_eq_true rfl) ?_
  intro p e s m below meth c A0 ls S K w hA hr hlk hl
  have S : CallFix p m c cX1_beginAnew 1 s ([.ref (ad 11)] : List Value).toArray zWs RX1 := S
  have hl : lv_has ls 1 [(0, .ref (ad 11))] := hl
  unfold f_X1_beginAnew_11 at h
  refine lv_aload_n S.1 S.2.1 dX1_beginAnew_0 rfl (lv_at hl 0 rfl) ?_
  refine lv_iconst (v := 0) S.1 S.2.1 dX1_beginAnew_1 (by decide) ?_
  refine pX_11_0 S K w w224 dX1_beginAnew_2 (fun H locs w => ?_)
  refine lv_aload_n S.1 S.2.1 dX1_beginAnew_5 rfl (lv_at hl 0 rfl) ?_
  refine lv_iconst (v := 0) S.1 S.2.1 dX1_beginAnew_6 (by decide) ?_
  refine pX_11_1 S K w w228 dX1_beginAnew_7 (fun H locs w => ?_)
  refine lv_aload_n S.1 S.2.1 dX1_beginAnew_10 rfl (lv_at hl 0 rfl) ?_
  refine lv_iconst (v := 0) S.1 S.2.1 dX1_beginAnew_11 (by decide) ?_
  refine pX_11_2 S K w w232 dX1_beginAnew_12 (fun H locs w => ?_)
  refine lv_aload_n S.1 S.2.1 dX1_beginAnew_15 rfl (lv_at hl 0 rfl) ?_
  refine lv_bipush (v := 8) S.1 S.2.1 dX1_beginAnew_16 (by decide) ?_
  refine pX_11_3 S K w w238 dX1_beginAnew_18 (fun H locs w => ?_)
  refine lv_aload_n S.1 S.2.1 dX1_beginAnew_21 rfl (lv_at hl 0 rfl) ?_
  refine lv_bipush (v := 15) S.1 S.2.1 dX1_beginAnew_22 (by decide) ?_
  refine pX_11_4 S K w w242 dX1_beginAnew_24 (fun H locs w => ?_)
  refine lv_aload_n S.1 S.2.1 dX1_beginAnew_27 rfl (lv_at hl 0 rfl) ?_
  refine lv_bipush (v := 10) S.1 S.2.1 dX1_beginAnew_28 (by decide) ?_
  refine pX_11_5 S K w w246 dX1_beginAnew_30 (fun H locs w => ?_)
  exact z_retv S w hr hlk dX1_beginAnew_33 (Option.some.inj h).symm
set_option maxHeartbeats 4000000 in
set_option maxRecDepth 100000 in
theorem c_X7_takeNumber (l : Launch) (D : va_G) (cs : Nat → ClassId) (ad : Nat → Nat) (F : ZF) (A : ZA) (T : Int64) (q : ZS) (h : f_X7_takeNumber F A T = some q) : zMv l D cs (XWc cs ad 10 11) yX7_takeNumber cX7_takeNumber 3 none rm_X7_takeNumber ([.ref (ad 1)] : List Value) F A T q := by
  refine z_enterv (by decide) (Nat.le_of_ble_eq_true rfl) ?_
  intro p e s m below meth c A0 ls S K w hA hr hlk hl
  have S : CallFix p m c cX7_takeNumber 3 s ([.ref (ad 1)] : List Value).toArray zWs RX7 := S
  have hl : lv_has ls 3 [(0, .ref (ad 1))] := hl
  unfold f_X7_takeNumber at h
  have j10 : ∀ (n10 : Nat) (x1 : Int32) (F : ZF) (A : ZA) (T : Int64), f_X7_takeNumber_10 n10 x1 F A T = some q → ∀ (H : Heap) (locs : List Loc) (ls : Array Slot), lv_has ls 3 [(0, .ref (ad 1)), (1, .int x1)] → ZW D A0 s.heap (XWc cs ad 10 11 F A T) H locs → W p l e rm_X7_takeNumber s m ([.ref (ad 1)] : List Value).toArray below meth c H locs 0 0 (zQv (XWc cs ad 10 11) D A0 below ([.ref (ad 1)] : List Value) s q) (F0 m 10 ls []) := by
    intro n10
    induction n10 with
    | zero =>
      intro x1 F A T h H locs ls hl w
      have h : (none : Option ZS) = some q := h
      cases h
    | succ n10 ih10 =>
      intro x1 F A T h H locs ls hl w
      rw [f_X7_takeNumber_10_s] at h
      have j83 : ∀ (x1 : Int32) (F : ZF) (A : ZA) (T : Int64), f_X7_takeNumber_83 x1 F A T = some q → ∀ (H : Heap) (locs : List Loc) (ls : Array Slot), lv_has ls 3 [(0, .ref (ad 1)), (1, .int x1)] → ZW D A0 s.heap (XWc cs ad 10 11 F A T) H locs → W p l e rm_X7_takeNumber s m ([.ref (ad 1)] : List Value).toArray below meth c H locs 0 0 (zQv (XWc cs ad 10 11) D A0 below ([.ref (ad 1)] : List Value) s q) (F0 m 83 ls []) := by
        intro x1 F A T h H locs ls hl w
        unfold f_X7_takeNumber_83 at h
        have j115 : ∀ (y0 : Int32) (F : ZF) (A : ZA) (T : Int64), f_X7_takeNumber_115 y0 F A T = some q → ∀ (H : Heap) (locs : List Loc) (ls : Array Slot), lv_has ls 3 [] → ZW D A0 s.heap (XWc cs ad 10 11 F A T) H locs → W p l e rm_X7_takeNumber s m ([.ref (ad 1)] : List Value).toArray below meth c H locs 0 0 (zQv (XWc cs ad 10 11) D A0 below ([.ref (ad 1)] : List Value) s q) (F0 m 115 ls [.int y0, .ref (ad 1)]) := by
          intro y0 F A T h H locs ls hl w
          unfold f_X7_takeNumber_115 at h
          refine pX_1_4 S K w w91 dX7_takeNumber_115 (fun H locs w => ?_)
          exact z_retv S w hr hlk dX7_takeNumber_118 (Option.some.inj h).symm
        refine lv_aload_n S.1 S.2.1 dX7_takeNumber_83 rfl (lv_at hl 0 rfl) ?_
        refine gX_1_3 S K w w90 dX7_takeNumber_84 ?_
        refine lv_aload_n S.1 S.2.1 dX7_takeNumber_87 rfl (lv_at hl 0 rfl) ?_
        refine gX_1_5 S K w w92 dX7_takeNumber_88 ?_
        refine lv_isub S.1 S.2.1 dX7_takeNumber_91 ?_
        refine lv_istore_n (lv' := [(2, .int ((F 2) - (F 4))), (0, .ref (ad 1)), (1, .int x1)]) S.1 S.2.1 dX7_takeNumber_92 rfl hl (by decide) rfl (fun ls hl => ?_)
        refine lv_aload_n S.1 S.2.1 dX7_takeNumber_93 rfl (lv_at hl 1 rfl) ?_
        refine lv_iload_n S.1 S.2.1 dX7_takeNumber_94 rfl (lv_at hl 0 rfl) ?_
        refine lv_iconst (v := 2) S.1 S.2.1 dX7_takeNumber_95 (by decide) ?_
        refine lv_icmp_gt (tgt := 110) S.1 S.2.1 dX7_takeNumber_96 (by decide) (fun c6 => ?_) (fun c6 => ?_)
        · have h := og_t c6 h
          refine lv_iconst (v := 4) S.1 S.2.1 dX7_takeNumber_110 (by decide) ?_
          refine lv_goto (tgt := 115) S.1 S.2.1 dX7_takeNumber_111 (by decide) ?_
          exact j115 _ _ _ _ h _ _ _ (lv_sub hl [] rfl) w
        · have h := og_f c6 h
          refine lv_iload_n S.1 S.2.1 dX7_takeNumber_99 rfl (lv_at hl 0 rfl) ?_
          refine lv_iconst (v := 2) S.1 S.2.1 dX7_takeNumber_100 (by decide) ?_
          refine lv_icmp_ne (tgt := 114) S.1 S.2.1 dX7_takeNumber_101 (by decide) (fun c7 => ?_) (fun c7 => ?_)
          · have h := og_f c7 h
            refine lv_iconst (v := 2) S.1 S.2.1 dX7_takeNumber_114 (by decide) ?_
            exact j115 _ _ _ _ h _ _ _ (lv_sub hl [] rfl) w
          · have h := og_t c7 h
            refine lv_iload_n S.1 S.2.1 dX7_takeNumber_104 rfl (lv_at hl 2 rfl) ?_
            refine lv_bipush (v := 48) S.1 S.2.1 dX7_takeNumber_105 (by decide) ?_
            refine lv_icmp_ne (tgt := 114) S.1 S.2.1 dX7_takeNumber_107 (by decide) (fun c8 => ?_) (fun c8 => ?_)
            · have h := og_f c8 h
              refine lv_iconst (v := 2) S.1 S.2.1 dX7_takeNumber_114 (by decide) ?_
              exact j115 _ _ _ _ h _ _ _ (lv_sub hl [] rfl) w
            · have h := og_t c8 h
              refine lv_iconst (v := 4) S.1 S.2.1 dX7_takeNumber_110 (by decide) ?_
              refine lv_goto (tgt := 115) S.1 S.2.1 dX7_takeNumber_111 (by decide) ?_
              exact j115 _ _ _ _ h _ _ _ (lv_sub hl [] rfl) w
      refine lv_aload_n S.1 S.2.1 dX7_takeNumber_10 rfl (lv_at hl 0 rfl) ?_
      refine gX_1_3 S K w w90 dX7_takeNumber_11 ?_
      refine lv_aload_n S.1 S.2.1 dX7_takeNumber_14 rfl (lv_at hl 0 rfl) ?_
      refine gX_1_1 S K w w88 dX7_takeNumber_15 ?_
      refine lv_icmp_ge (tgt := 83) S.1 S.2.1 dX7_takeNumber_18 (by decide) (fun c1 => ?_) (fun c1 => ?_)
      · have h := og_t c1 h
        exact j83 _ _ _ _ h _ _ _ (lv_sub hl [0, 1] rfl) w
      · have h := og_f c1 h
        refine lv_aload_n S.1 S.2.1 dX7_takeNumber_21 rfl (lv_at hl 0 rfl) ?_
        refine gX_1_0 S K w w85 dX7_takeNumber_22 ?_
        refine lv_aload_n S.1 S.2.1 dX7_takeNumber_25 rfl (lv_at hl 0 rfl) ?_
        refine gX_1_3 S K w w90 dX7_takeNumber_26 ?_
        obtain ⟨g2, h⟩ := og_g h
        refine aX_12 S K w g2 dX7_takeNumber_29 ?_
        refine lv_bipush (v := 48) S.1 S.2.1 dX7_takeNumber_30 (by decide) ?_
        refine lv_bipush (v := 57) S.1 S.2.1 dX7_takeNumber_32 (by decide) ?_
        refine z_callNr S K w hA (c_X10_within l D cs ad F A T (A 12 ((F 2)).toNatClampNeg) (48 : Int32) (57 : Int32) (f_X10_within (A 12 ((F 2)).toNatClampNeg) (48 : Int32) (57 : Int32)) rfl) (cw_X7_69 S.2.2.2.2 K.2 ⟨Nat.le_of_ble_eq_true rfl, Nat.le_of_ble_eq_true rfl⟩) rfl hl.1 rfl (Nat.le_of_ble_eq_true rfl) ⟨Nat.zero_le _, Nat.zero_le _⟩ dX7_takeNumber_34 (fun b3 H locs w => ?_)
        refine lv_if_eq (tgt := 83) S.1 S.2.1 dX7_takeNumber_37 (by decide) (fun c4 => ?_) (fun c4 => ?_)
        · have h := og_t c4 h
          exact j83 _ _ _ _ h _ _ _ (lv_sub hl [0, 1] rfl) w
        · have h := og_f c4 h
          refine lv_aload_n S.1 S.2.1 dX7_takeNumber_40 rfl (lv_at hl 0 rfl) ?_
          refine lv_aload_n S.1 S.2.1 dX7_takeNumber_41 rfl (lv_at hl 0 rfl) ?_
          refine gX_1_6 S K w w93 dX7_takeNumber_42 ?_
          refine lv_bipush (v := 10) S.1 S.2.1 dX7_takeNumber_45 (by decide) ?_
          refine lv_imul S.1 S.2.1 dX7_takeNumber_47 ?_
          refine lv_aload_n S.1 S.2.1 dX7_takeNumber_48 rfl (lv_at hl 0 rfl) ?_
          refine gX_1_0 S K w w85 dX7_takeNumber_49 ?_
          refine lv_aload_n S.1 S.2.1 dX7_takeNumber_52 rfl (lv_at hl 0 rfl) ?_
          refine gX_1_3 S K w w90 dX7_takeNumber_53 ?_
          obtain ⟨g5, h⟩ := og_g h
          refine aX_12 S K w g5 dX7_takeNumber_56 ?_
          refine lv_iadd S.1 S.2.1 dX7_takeNumber_57 ?_
          refine lv_bipush (v := 48) S.1 S.2.1 dX7_takeNumber_58 (by decide) ?_
          refine lv_isub S.1 S.2.1 dX7_takeNumber_60 ?_
          refine lv_sipush (v := 1000) S.1 S.2.1 dX7_takeNumber_61 (by decide) ?_
          refine va_mmin S.1 S.2.1 (S.2.2.1.trans hl.1.symm) S.2.2.2.1 (S.2.2.2.2 _ w394) (S.2.2.2.2 _ w395) (S.2.2.2.2 _ w68) (S.2.2.2.2 _ w396) (Nat.le_of_ble_eq_true rfl) (Nat.le_of_ble_eq_true rfl) (Nat.zero_le _) (Nat.zero_le _) dX7_takeNumber_64 ?_
          refine pX_1_6 S K w w93 dX7_takeNumber_67 (fun H locs w => ?_)
          refine lv_aload_n S.1 S.2.1 dX7_takeNumber_70 rfl (lv_at hl 0 rfl) ?_
          refine lv_dup S.1 S.2.1 dX7_takeNumber_71 rfl ?_
          refine gX_1_3 S K w w90 dX7_takeNumber_72 ?_
          refine lv_iconst (v := 1) S.1 S.2.1 dX7_takeNumber_75 (by decide) ?_
          refine lv_iadd S.1 S.2.1 dX7_takeNumber_76 ?_
          refine pX_1_3 S K w w90 dX7_takeNumber_77 (fun H locs w => ?_)
          refine lv_goto (tgt := 10) S.1 S.2.1 dX7_takeNumber_80 (by decide) ?_
          exact ih10 _ _ _ _ h _ _ _ (lv_sub hl [0, 1] rfl) w
  refine lv_aload_n S.1 S.2.1 dX7_takeNumber_0 rfl (lv_at hl 0 rfl) ?_
  refine gX_1_0 S K w w85 dX7_takeNumber_1 ?_
  refine lv_aload_n S.1 S.2.1 dX7_takeNumber_4 rfl (lv_at hl 0 rfl) ?_
  refine gX_1_3 S K w w90 dX7_takeNumber_5 ?_
  obtain ⟨g9, h⟩ := og_g h
  refine aX_12 S K w g9 dX7_takeNumber_8 ?_
  refine lv_istore_n (lv' := [(1, .int (A 12 ((F 2)).toNatClampNeg)), (0, .ref (ad 1))]) S.1 S.2.1 dX7_takeNumber_9 rfl hl (by decide) rfl (fun ls hl => ?_)
  exact j10 1000 _ _ _ _ h _ _ _ (lv_sub hl [1, 0] rfl) w
set_option maxHeartbeats 4000000 in
set_option maxRecDepth 100000 in
theorem c_X7_takeLetters (l : Launch) (D : va_G) (cs : Nat → ClassId) (ad : Nat → Nat) (F : ZF) (A : ZA) (T : Int64) (q : ZS) (h : f_X7_takeLetters F A T = some q) : zMv l D cs (XWc cs ad 10 11) yX7_takeLetters cX7_takeLetters 2 none rm_X7_takeLetters ([.ref (ad 1)] : List Value) F A T q := by
  refine z_enterv (by decide) (Nat.le_of_ble_eq_true rfl) ?_
  intro p e s m below meth c A0 ls S K w hA hr hlk hl
  have S : CallFix p m c cX7_takeLetters 2 s ([.ref (ad 1)] : List Value).toArray zWs RX7 := S
  have hl : lv_has ls 2 [(0, .ref (ad 1))] := hl
  unfold f_X7_takeLetters at h
  have j10 : ∀ (n10 : Nat) (x1 : Int32) (F : ZF) (A : ZA) (T : Int64), f_X7_takeLetters_10 n10 x1 F A T = some q → ∀ (H : Heap) (locs : List Loc) (ls : Array Slot), lv_has ls 2 [(0, .ref (ad 1)), (1, .int x1)] → ZW D A0 s.heap (XWc cs ad 10 11 F A T) H locs → W p l e rm_X7_takeLetters s m ([.ref (ad 1)] : List Value).toArray below meth c H locs 0 0 (zQv (XWc cs ad 10 11) D A0 below ([.ref (ad 1)] : List Value) s q) (F0 m 10 ls []) := by
    intro n10
    induction n10 with
    | zero =>
      intro x1 F A T h H locs ls hl w
      have h : (none : Option ZS) = some q := h
      cases h
    | succ n10 ih10 =>
      intro x1 F A T h H locs ls hl w
      rw [f_X7_takeLetters_10_s] at h
      have j53 : ∀ (x1 : Int32) (F : ZF) (A : ZA) (T : Int64), f_X7_takeLetters_53 x1 F A T = some q → ∀ (H : Heap) (locs : List Loc) (ls : Array Slot), lv_has ls 2 [(0, .ref (ad 1)), (1, .int x1)] → ZW D A0 s.heap (XWc cs ad 10 11 F A T) H locs → W p l e rm_X7_takeLetters s m ([.ref (ad 1)] : List Value).toArray below meth c H locs 0 0 (zQv (XWc cs ad 10 11) D A0 below ([.ref (ad 1)] : List Value) s q) (F0 m 53 ls []) := by
        intro x1 F A T h H locs ls hl w
        unfold f_X7_takeLetters_53 at h
        have j77 : ∀ (y0 : Int32) (F : ZF) (A : ZA) (T : Int64), f_X7_takeLetters_77 y0 F A T = some q → ∀ (H : Heap) (locs : List Loc) (ls : Array Slot), lv_has ls 2 [] → ZW D A0 s.heap (XWc cs ad 10 11 F A T) H locs → W p l e rm_X7_takeLetters s m ([.ref (ad 1)] : List Value).toArray below meth c H locs 0 0 (zQv (XWc cs ad 10 11) D A0 below ([.ref (ad 1)] : List Value) s q) (F0 m 77 ls [.int y0, .ref (ad 1)]) := by
          intro y0 F A T h H locs ls hl w
          unfold f_X7_takeLetters_77 at h
          refine pX_1_6 S K w w93 dX7_takeLetters_77 (fun H locs w => ?_)
          exact z_retv S w hr hlk dX7_takeLetters_80 (Option.some.inj h).symm
        refine lv_aload_n S.1 S.2.1 dX7_takeLetters_53 rfl (lv_at hl 0 rfl) ?_
        refine lv_iconst (v := 1) S.1 S.2.1 dX7_takeLetters_54 (by decide) ?_
        refine pX_1_4 S K w w91 dX7_takeLetters_55 (fun H locs w => ?_)
        refine lv_aload_n S.1 S.2.1 dX7_takeLetters_58 rfl (lv_at hl 0 rfl) ?_
        refine lv_aload_n S.1 S.2.1 dX7_takeLetters_59 rfl (lv_at hl 0 rfl) ?_
        refine gX_1_3 S K w w90 dX7_takeLetters_60 ?_
        refine lv_aload_n S.1 S.2.1 dX7_takeLetters_63 rfl (lv_at hl 0 rfl) ?_
        refine gX_1_5 S K w w92 dX7_takeLetters_64 ?_
        refine lv_isub S.1 S.2.1 dX7_takeLetters_67 ?_
        refine lv_iconst (v := 1) S.1 S.2.1 dX7_takeLetters_68 (by decide) ?_
        refine lv_icmp_ne (tgt := 76) S.1 S.2.1 dX7_takeLetters_69 (by decide) (fun c5 => ?_) (fun c5 => ?_)
        · have h := og_f c5 h
          refine lv_iconst (v := 0) S.1 S.2.1 dX7_takeLetters_76 (by decide) ?_
          exact j77 _ _ _ _ h _ _ _ (lv_sub hl [] rfl) w
        · have h := og_t c5 h
          refine lv_iload_n S.1 S.2.1 dX7_takeLetters_72 rfl (lv_at hl 1 rfl) ?_
          refine lv_goto (tgt := 77) S.1 S.2.1 dX7_takeLetters_73 (by decide) ?_
          exact j77 _ _ _ _ h _ _ _ (lv_sub hl [] rfl) w
      refine lv_aload_n S.1 S.2.1 dX7_takeLetters_10 rfl (lv_at hl 0 rfl) ?_
      refine gX_1_3 S K w w90 dX7_takeLetters_11 ?_
      refine lv_aload_n S.1 S.2.1 dX7_takeLetters_14 rfl (lv_at hl 0 rfl) ?_
      refine gX_1_1 S K w w88 dX7_takeLetters_15 ?_
      refine lv_icmp_ge (tgt := 53) S.1 S.2.1 dX7_takeLetters_18 (by decide) (fun c1 => ?_) (fun c1 => ?_)
      · have h := og_t c1 h
        exact j53 _ _ _ _ h _ _ _ (lv_sub hl [0, 1] rfl) w
      · have h := og_f c1 h
        refine lv_aload_n S.1 S.2.1 dX7_takeLetters_21 rfl (lv_at hl 0 rfl) ?_
        refine gX_1_0 S K w w85 dX7_takeLetters_22 ?_
        refine lv_aload_n S.1 S.2.1 dX7_takeLetters_25 rfl (lv_at hl 0 rfl) ?_
        refine gX_1_3 S K w w90 dX7_takeLetters_26 ?_
        obtain ⟨g2, h⟩ := og_g h
        refine aX_12 S K w g2 dX7_takeLetters_29 ?_
        refine lv_bipush (v := 97) S.1 S.2.1 dX7_takeLetters_30 (by decide) ?_
        refine lv_bipush (v := 122) S.1 S.2.1 dX7_takeLetters_32 (by decide) ?_
        refine z_callNr S K w hA (c_X10_within l D cs ad F A T (A 12 ((F 2)).toNatClampNeg) (97 : Int32) (122 : Int32) (f_X10_within (A 12 ((F 2)).toNatClampNeg) (97 : Int32) (122 : Int32)) rfl) (cw_X7_69 S.2.2.2.2 K.2 ⟨Nat.le_of_ble_eq_true rfl, Nat.le_of_ble_eq_true rfl⟩) rfl hl.1 rfl (Nat.le_of_ble_eq_true rfl) ⟨Nat.zero_le _, Nat.zero_le _⟩ dX7_takeLetters_34 (fun b3 H locs w => ?_)
        refine lv_if_eq (tgt := 53) S.1 S.2.1 dX7_takeLetters_37 (by decide) (fun c4 => ?_) (fun c4 => ?_)
        · have h := og_t c4 h
          exact j53 _ _ _ _ h _ _ _ (lv_sub hl [0, 1] rfl) w
        · have h := og_f c4 h
          refine lv_aload_n S.1 S.2.1 dX7_takeLetters_40 rfl (lv_at hl 0 rfl) ?_
          refine lv_dup S.1 S.2.1 dX7_takeLetters_41 rfl ?_
          refine gX_1_3 S K w w90 dX7_takeLetters_42 ?_
          refine lv_iconst (v := 1) S.1 S.2.1 dX7_takeLetters_45 (by decide) ?_
          refine lv_iadd S.1 S.2.1 dX7_takeLetters_46 ?_
          refine pX_1_3 S K w w90 dX7_takeLetters_47 (fun H locs w => ?_)
          refine lv_goto (tgt := 10) S.1 S.2.1 dX7_takeLetters_50 (by decide) ?_
          exact ih10 _ _ _ _ h _ _ _ (lv_sub hl [0, 1] rfl) w
  refine lv_aload_n S.1 S.2.1 dX7_takeLetters_0 rfl (lv_at hl 0 rfl) ?_
  refine gX_1_0 S K w w85 dX7_takeLetters_1 ?_
  refine lv_aload_n S.1 S.2.1 dX7_takeLetters_4 rfl (lv_at hl 0 rfl) ?_
  refine gX_1_3 S K w w90 dX7_takeLetters_5 ?_
  obtain ⟨g6, h⟩ := og_g h
  refine aX_12 S K w g6 dX7_takeLetters_8 ?_
  refine lv_istore_n (lv' := [(1, .int (A 12 ((F 2)).toNatClampNeg)), (0, .ref (ad 1))]) S.1 S.2.1 dX7_takeLetters_9 rfl hl (by decide) rfl (fun ls hl => ?_)
  exact j10 1000 _ _ _ _ h _ _ _ (lv_sub hl [1, 0] rfl) w
set_option maxHeartbeats 4000000 in
set_option maxRecDepth 100000 in
theorem c_X7_nextToken (l : Launch) (D : va_G) (cs : Nat → ClassId) (ad : Nat → Nat) (F : ZF) (A : ZA) (T : Int64) (q : ZS) (h : f_X7_nextToken F A T = some q) : zMv l D cs (XWc cs ad 10 11) yX7_nextToken cX7_nextToken 1 none rm_X7_nextToken ([.ref (ad 1)] : List Value) F A T q := by
  refine z_enterv (by decide) (Nat.le_of_ble_eq_true rfl) ?_
  intro p e s m below meth c A0 ls S K w hA hr hlk hl
  have S : CallFix p m c cX7_nextToken 1 s ([.ref (ad 1)] : List Value).toArray zWs RX7 := S
  have hl : lv_has ls 1 [(0, .ref (ad 1))] := hl
  unfold f_X7_nextToken at h
  have j0 : ∀ (n0 : Nat) (F : ZF) (A : ZA) (T : Int64), f_X7_nextToken_0 n0 F A T = some q → ∀ (H : Heap) (locs : List Loc) (ls : Array Slot), lv_has ls 1 [(0, .ref (ad 1))] → ZW D A0 s.heap (XWc cs ad 10 11 F A T) H locs → W p l e rm_X7_nextToken s m ([.ref (ad 1)] : List Value).toArray below meth c H locs 0 0 (zQv (XWc cs ad 10 11) D A0 below ([.ref (ad 1)] : List Value) s q) (F0 m 0 ls []) := by
    intro n0
    induction n0 with
    | zero =>
      intro F A T h H locs ls hl w
      have h : (none : Option ZS) = some q := h
      cases h
    | succ n0 ih0 =>
      intro F A T h H locs ls hl w
      rw [f_X7_nextToken_0_s] at h
      have j38 : ∀ (F : ZF) (A : ZA) (T : Int64), f_X7_nextToken_38 F A T = some q → ∀ (H : Heap) (locs : List Loc) (ls : Array Slot), lv_has ls 1 [(0, .ref (ad 1))] → ZW D A0 s.heap (XWc cs ad 10 11 F A T) H locs → W p l e rm_X7_nextToken s m ([.ref (ad 1)] : List Value).toArray below meth c H locs 0 0 (zQv (XWc cs ad 10 11) D A0 below ([.ref (ad 1)] : List Value) s q) (F0 m 38 ls []) := by
        intro F A T h H locs ls hl w
        unfold f_X7_nextToken_38 at h
        refine lv_aload_n S.1 S.2.1 dX7_nextToken_38 rfl (lv_at hl 0 rfl) ?_
        refine lv_aload_n S.1 S.2.1 dX7_nextToken_39 rfl (lv_at hl 0 rfl) ?_
        refine gX_1_3 S K w w90 dX7_nextToken_40 ?_
        refine pX_1_5 S K w w92 dX7_nextToken_43 (fun H locs w => ?_)
        refine lv_aload_n S.1 S.2.1 dX7_nextToken_46 rfl (lv_at hl 0 rfl) ?_
        refine lv_iconst (v := 0) S.1 S.2.1 dX7_nextToken_47 (by decide) ?_
        refine pX_1_6 S K w w93 dX7_nextToken_48 (fun H locs w => ?_)
        refine lv_aload_n S.1 S.2.1 dX7_nextToken_51 rfl (lv_at hl 0 rfl) ?_
        refine gX_1_3 S K w w90 dX7_nextToken_52 ?_
        refine lv_aload_n S.1 S.2.1 dX7_nextToken_55 rfl (lv_at hl 0 rfl) ?_
        refine gX_1_1 S K w w88 dX7_nextToken_56 ?_
        refine lv_icmp_lt (tgt := 70) S.1 S.2.1 dX7_nextToken_59 (by decide) (fun c4 => ?_) (fun c4 => ?_)
        · have h := og_t c4 h
          refine lv_aload_n S.1 S.2.1 dX7_nextToken_70 rfl (lv_at hl 0 rfl) ?_
          refine gX_1_0 S K w w85 dX7_nextToken_71 ?_
          refine lv_aload_n S.1 S.2.1 dX7_nextToken_74 rfl (lv_at hl 0 rfl) ?_
          refine gX_1_3 S K w w90 dX7_nextToken_75 ?_
          obtain ⟨g5, h⟩ := og_g h
          refine aX_12 S K w g5 dX7_nextToken_78 ?_
          refine lv_bipush (v := 59) S.1 S.2.1 dX7_nextToken_79 (by decide) ?_
          refine lv_icmp_ne (tgt := 102) S.1 S.2.1 dX7_nextToken_81 (by decide) (fun c6 => ?_) (fun c6 => ?_)
          · have h := og_f c6 h
            refine lv_aload_n S.1 S.2.1 dX7_nextToken_102 rfl (lv_at hl 0 rfl) ?_
            refine gX_1_0 S K w w85 dX7_nextToken_103 ?_
            refine lv_aload_n S.1 S.2.1 dX7_nextToken_106 rfl (lv_at hl 0 rfl) ?_
            refine gX_1_3 S K w w90 dX7_nextToken_107 ?_
            obtain ⟨g7, h⟩ := og_g h
            refine aX_12 S K w g7 dX7_nextToken_110 ?_
            refine lv_bipush (v := 97) S.1 S.2.1 dX7_nextToken_111 (by decide) ?_
            refine lv_bipush (v := 122) S.1 S.2.1 dX7_nextToken_113 (by decide) ?_
            refine z_callNr S K w hA (c_X10_within l D cs ad (upd (upd F 4 (F 2)) 5 (0 : Int32)) A T (A 12 (((upd (upd F 4 (F 2)) 5 (0 : Int32)) 2)).toNatClampNeg) (97 : Int32) (122 : Int32) (f_X10_within (A 12 (((upd (upd F 4 (F 2)) 5 (0 : Int32)) 2)).toNatClampNeg) (97 : Int32) (122 : Int32)) rfl) (cw_X7_69 S.2.2.2.2 K.2 ⟨Nat.le_of_ble_eq_true rfl, Nat.le_of_ble_eq_true rfl⟩) rfl hl.1 rfl (Nat.le_of_ble_eq_true rfl) ⟨Nat.zero_le _, Nat.zero_le _⟩ dX7_nextToken_115 (fun b8 H locs w => ?_)
            refine lv_if_eq (tgt := 128) S.1 S.2.1 dX7_nextToken_118 (by decide) (fun c9 => ?_) (fun c9 => ?_)
            · have h := og_t c9 h
              refine lv_aload_n S.1 S.2.1 dX7_nextToken_128 rfl (lv_at hl 0 rfl) ?_
              refine gX_1_0 S K w w85 dX7_nextToken_129 ?_
              refine lv_aload_n S.1 S.2.1 dX7_nextToken_132 rfl (lv_at hl 0 rfl) ?_
              refine gX_1_3 S K w w90 dX7_nextToken_133 ?_
              obtain ⟨g10, h⟩ := og_g h
              refine aX_12 S K w g10 dX7_nextToken_136 ?_
              refine lv_bipush (v := 48) S.1 S.2.1 dX7_nextToken_137 (by decide) ?_
              refine lv_bipush (v := 57) S.1 S.2.1 dX7_nextToken_139 (by decide) ?_
              refine z_callNr S K w hA (c_X10_within l D cs ad (upd (upd F 4 (F 2)) 5 (0 : Int32)) A T (A 12 (((upd (upd F 4 (F 2)) 5 (0 : Int32)) 2)).toNatClampNeg) (48 : Int32) (57 : Int32) (f_X10_within (A 12 (((upd (upd F 4 (F 2)) 5 (0 : Int32)) 2)).toNatClampNeg) (48 : Int32) (57 : Int32)) rfl) (cw_X7_69 S.2.2.2.2 K.2 ⟨Nat.le_of_ble_eq_true rfl, Nat.le_of_ble_eq_true rfl⟩) rfl hl.1 rfl (Nat.le_of_ble_eq_true rfl) ⟨Nat.zero_le _, Nat.zero_le _⟩ dX7_nextToken_141 (fun b11 H locs w => ?_)
              refine lv_if_eq (tgt := 154) S.1 S.2.1 dX7_nextToken_144 (by decide) (fun c12 => ?_) (fun c12 => ?_)
              · have h := og_t c12 h
                refine lv_aload_n S.1 S.2.1 dX7_nextToken_154 rfl (lv_at hl 0 rfl) ?_
                refine lv_iconst (v := 4) S.1 S.2.1 dX7_nextToken_155 (by decide) ?_
                refine pX_1_4 S K w w91 dX7_nextToken_156 (fun H locs w => ?_)
                exact z_retv S w hr hlk dX7_nextToken_159 (Option.some.inj h).symm
              · have h := og_f c12 h
                refine lv_aload_n S.1 S.2.1 dX7_nextToken_147 rfl (lv_at hl 0 rfl) ?_
                obtain ⟨q13, e14, h⟩ := og_b h
                refine z_callVv S K w hA (c_X7_takeNumber l D cs ad (upd (upd F 4 (F 2)) 5 (0 : Int32)) A T q13 e14) (cw_X7_109 S.2.2.2.2 ⟨Nat.le_of_ble_eq_true rfl, Nat.le_of_ble_eq_true rfl⟩) (z_recv K w 1 7 rfl rfl) rfl hl.1 rfl (Nat.le_of_ble_eq_true rfl) ⟨Nat.zero_le _, Nat.zero_le _⟩ dX7_nextToken_148 (fun H locs w => ?_)
                refine lv_goto (tgt := 159) S.1 S.2.1 dX7_nextToken_151 (by decide) ?_
                exact z_retv S w hr hlk dX7_nextToken_159 (Option.some.inj h).symm
            · have h := og_f c9 h
              refine lv_aload_n S.1 S.2.1 dX7_nextToken_121 rfl (lv_at hl 0 rfl) ?_
              obtain ⟨q15, e16, h⟩ := og_b h
              refine z_callVv S K w hA (c_X7_takeLetters l D cs ad (upd (upd F 4 (F 2)) 5 (0 : Int32)) A T q15 e16) (cw_X7_106 S.2.2.2.2 ⟨Nat.le_of_ble_eq_true rfl, Nat.le_of_ble_eq_true rfl⟩) (z_recv K w 1 7 rfl rfl) rfl hl.1 rfl (Nat.le_of_ble_eq_true rfl) ⟨Nat.zero_le _, Nat.zero_le _⟩ dX7_nextToken_122 (fun H locs w => ?_)
              refine lv_goto (tgt := 159) S.1 S.2.1 dX7_nextToken_125 (by decide) ?_
              exact z_retv S w hr hlk dX7_nextToken_159 (Option.some.inj h).symm
          · have h := og_t c6 h
            refine lv_aload_n S.1 S.2.1 dX7_nextToken_84 rfl (lv_at hl 0 rfl) ?_
            refine lv_iconst (v := 3) S.1 S.2.1 dX7_nextToken_85 (by decide) ?_
            refine pX_1_4 S K w w91 dX7_nextToken_86 (fun H locs w => ?_)
            refine lv_aload_n S.1 S.2.1 dX7_nextToken_89 rfl (lv_at hl 0 rfl) ?_
            refine lv_dup S.1 S.2.1 dX7_nextToken_90 rfl ?_
            refine gX_1_3 S K w w90 dX7_nextToken_91 ?_
            refine lv_iconst (v := 1) S.1 S.2.1 dX7_nextToken_94 (by decide) ?_
            refine lv_iadd S.1 S.2.1 dX7_nextToken_95 ?_
            refine pX_1_3 S K w w90 dX7_nextToken_96 (fun H locs w => ?_)
            refine lv_goto (tgt := 159) S.1 S.2.1 dX7_nextToken_99 (by decide) ?_
            exact z_retv S w hr hlk dX7_nextToken_159 (Option.some.inj h).symm
        · have h := og_f c4 h
          refine lv_aload_n S.1 S.2.1 dX7_nextToken_62 rfl (lv_at hl 0 rfl) ?_
          refine lv_iconst (v := 0) S.1 S.2.1 dX7_nextToken_63 (by decide) ?_
          refine pX_1_4 S K w w91 dX7_nextToken_64 (fun H locs w => ?_)
          refine lv_goto (tgt := 159) S.1 S.2.1 dX7_nextToken_67 (by decide) ?_
          exact z_retv S w hr hlk dX7_nextToken_159 (Option.some.inj h).symm
      refine lv_aload_n S.1 S.2.1 dX7_nextToken_0 rfl (lv_at hl 0 rfl) ?_
      refine gX_1_3 S K w w90 dX7_nextToken_1 ?_
      refine lv_aload_n S.1 S.2.1 dX7_nextToken_4 rfl (lv_at hl 0 rfl) ?_
      refine gX_1_1 S K w w88 dX7_nextToken_5 ?_
      refine lv_icmp_ge (tgt := 38) S.1 S.2.1 dX7_nextToken_8 (by decide) (fun c1 => ?_) (fun c1 => ?_)
      · have h := og_t c1 h
        exact j38 _ _ _ h _ _ _ (lv_sub hl [0] rfl) w
      · have h := og_f c1 h
        refine lv_aload_n S.1 S.2.1 dX7_nextToken_11 rfl (lv_at hl 0 rfl) ?_
        refine gX_1_0 S K w w85 dX7_nextToken_12 ?_
        refine lv_aload_n S.1 S.2.1 dX7_nextToken_15 rfl (lv_at hl 0 rfl) ?_
        refine gX_1_3 S K w w90 dX7_nextToken_16 ?_
        obtain ⟨g2, h⟩ := og_g h
        refine aX_12 S K w g2 dX7_nextToken_19 ?_
        refine lv_bipush (v := 32) S.1 S.2.1 dX7_nextToken_20 (by decide) ?_
        refine lv_icmp_ne (tgt := 38) S.1 S.2.1 dX7_nextToken_22 (by decide) (fun c3 => ?_) (fun c3 => ?_)
        · have h := og_f c3 h
          exact j38 _ _ _ h _ _ _ (lv_sub hl [0] rfl) w
        · have h := og_t c3 h
          refine lv_aload_n S.1 S.2.1 dX7_nextToken_25 rfl (lv_at hl 0 rfl) ?_
          refine lv_dup S.1 S.2.1 dX7_nextToken_26 rfl ?_
          refine gX_1_3 S K w w90 dX7_nextToken_27 ?_
          refine lv_iconst (v := 1) S.1 S.2.1 dX7_nextToken_30 (by decide) ?_
          refine lv_iadd S.1 S.2.1 dX7_nextToken_31 ?_
          refine pX_1_3 S K w w90 dX7_nextToken_32 (fun H locs w => ?_)
          refine lv_goto (tgt := 0) S.1 S.2.1 dX7_nextToken_35 (by decide) ?_
          exact ih0 _ _ _ h _ _ _ (lv_sub hl [0] rfl) w
  exact j0 1000 _ _ _ h _ _ _ (lv_sub hl [0] rfl) w
set_option maxHeartbeats 4000000 in
set_option maxRecDepth 100000 in
theorem c_X7_mayBegin (l : Launch) (D : va_G) (cs : Nat → ClassId) (ad : Nat → Nat) (F : ZF) (A : ZA) (T : Int64) (a0 : Int32) (q : Int32) (h : f_X7_mayBegin a0 F A T = q) : zMi l D cs (XWc cs ad 10 11) yX7_mayBegin cX7_mayBegin 3 (some .boolean) rm_X7_mayBegin ([.ref (ad 1), .int a0, .ref (ad 11)] : List Value) F A T ((q, F, A, T) : Int32 × ZS) (((q, F, A, T) : Int32 × ZS).1 &&& 1 = ((q, F, A, T) : Int32 × ZS).1) := by
  refine z_enteri (by decide) (Nat.le_of_ble_eq_true rfl) ?_
  intro p e s m below meth c A0 ls S K w hA hr hlk hl
  have S : CallFix p m c cX7_mayBegin 3 s ([.ref (ad 1), .int a0, .ref (ad 11)] : List Value).toArray zWs RX7 := S
  have hl : lv_has ls 3 [(0, .ref (ad 1)), (1, .int a0), (2, .ref (ad 11))] := hl
  unfold f_X7_mayBegin at h
  refine lv_iload_n S.1 S.2.1 dX7_mayBegin_0 rfl (lv_at hl 1 rfl) ?_
  by_cases c1 : a0 = (97 : Int32)
  · have h := og_t c1 h
    refine lv_lookup (tgt := 82) S.1 S.2.1 dX7_mayBegin_1 (by decide) (off := 81) (by rw [c1]; decide) (by decide) ?_
    refine lv_aload_n S.1 S.2.1 dX7_mayBegin_82 rfl (lv_at hl 2 rfl) ?_
    refine gX_11_2 S K w w235 dX7_mayBegin_83 ?_
    refine lv_bipush (v := 8) S.1 S.2.1 dX7_mayBegin_86 (by decide) ?_
    refine lv_icmp_ge (tgt := 95) S.1 S.2.1 dX7_mayBegin_88 (by decide) (fun c2 => ?_) (fun c2 => ?_)
    · have h := og_t c2 h
      refine lv_iconst (v := 0) S.1 S.2.1 dX7_mayBegin_95 (by decide) ?_
      exact z_retz S w hr hlk dX7_mayBegin_96 (by decide) (by rw [← h])
    · have h := og_f c2 h
      refine lv_iconst (v := 1) S.1 S.2.1 dX7_mayBegin_91 (by decide) ?_
      refine lv_goto (tgt := 96) S.1 S.2.1 dX7_mayBegin_92 (by decide) ?_
      exact z_retz S w hr hlk dX7_mayBegin_96 (by decide) (by rw [← h])
  · have h := og_f c1 h
    by_cases c3 : a0 = (100 : Int32)
    · have h := og_t c3 h
      refine lv_lookup (tgt := 110) S.1 S.2.1 dX7_mayBegin_1 (by decide) (off := 109) (by rw [c3]; decide) (by decide) ?_
      refine lv_aload_n S.1 S.2.1 dX7_mayBegin_110 rfl (lv_at hl 0 rfl) ?_
      refine gX_1_8 S K w w95 dX7_mayBegin_111 ?_
      refine lv_if_ne (tgt := 121) S.1 S.2.1 dX7_mayBegin_114 (by decide) (fun c4 => ?_) (fun c4 => ?_)
      · have h := og_f c4 h
        refine lv_iconst (v := 0) S.1 S.2.1 dX7_mayBegin_121 (by decide) ?_
        exact z_retz S w hr hlk dX7_mayBegin_122 (by decide) (by rw [← h])
      · have h := og_t c4 h
        refine lv_iconst (v := 1) S.1 S.2.1 dX7_mayBegin_117 (by decide) ?_
        refine lv_goto (tgt := 122) S.1 S.2.1 dX7_mayBegin_118 (by decide) ?_
        exact z_retz S w hr hlk dX7_mayBegin_122 (by decide) (by rw [← h])
    · have h := og_f c3 h
      by_cases c5 : a0 = (102 : Int32)
      · have h := og_t c5 h
        refine lv_lookup (tgt := 67) S.1 S.2.1 dX7_mayBegin_1 (by decide) (off := 66) (by rw [c5]; decide) (by decide) ?_
        refine lv_aload_n S.1 S.2.1 dX7_mayBegin_67 rfl (lv_at hl 2 rfl) ?_
        refine gX_11_1 S K w w229 dX7_mayBegin_68 ?_
        refine lv_bipush (v := 8) S.1 S.2.1 dX7_mayBegin_71 (by decide) ?_
        refine lv_icmp_ge (tgt := 80) S.1 S.2.1 dX7_mayBegin_73 (by decide) (fun c6 => ?_) (fun c6 => ?_)
        · have h := og_t c6 h
          refine lv_iconst (v := 0) S.1 S.2.1 dX7_mayBegin_80 (by decide) ?_
          exact z_retz S w hr hlk dX7_mayBegin_81 (by decide) (by rw [← h])
        · have h := og_f c6 h
          refine lv_iconst (v := 1) S.1 S.2.1 dX7_mayBegin_76 (by decide) ?_
          refine lv_goto (tgt := 81) S.1 S.2.1 dX7_mayBegin_77 (by decide) ?_
          exact z_retz S w hr hlk dX7_mayBegin_81 (by decide) (by rw [← h])
      · have h := og_f c5 h
        by_cases c7 : a0 = (115 : Int32)
        · have h := og_t c7 h
          refine lv_lookup (tgt := 52) S.1 S.2.1 dX7_mayBegin_1 (by decide) (off := 51) (by rw [c7]; decide) (by decide) ?_
          refine lv_aload_n S.1 S.2.1 dX7_mayBegin_52 rfl (lv_at hl 2 rfl) ?_
          refine gX_11_0 S K w w226 dX7_mayBegin_53 ?_
          refine lv_bipush (v := 6) S.1 S.2.1 dX7_mayBegin_56 (by decide) ?_
          refine lv_icmp_ge (tgt := 65) S.1 S.2.1 dX7_mayBegin_58 (by decide) (fun c8 => ?_) (fun c8 => ?_)
          · have h := og_t c8 h
            refine lv_iconst (v := 0) S.1 S.2.1 dX7_mayBegin_65 (by decide) ?_
            exact z_retz S w hr hlk dX7_mayBegin_66 (by decide) (by rw [← h])
          · have h := og_f c8 h
            refine lv_iconst (v := 1) S.1 S.2.1 dX7_mayBegin_61 (by decide) ?_
            refine lv_goto (tgt := 66) S.1 S.2.1 dX7_mayBegin_62 (by decide) ?_
            exact z_retz S w hr hlk dX7_mayBegin_66 (by decide) (by rw [← h])
        · have h := og_f c7 h
          by_cases c9 : a0 = (116 : Int32)
          · have h := og_t c9 h
            refine lv_lookup (tgt := 97) S.1 S.2.1 dX7_mayBegin_1 (by decide) (off := 96) (by rw [c9]; decide) (by decide) ?_
            refine lv_aload_n S.1 S.2.1 dX7_mayBegin_97 rfl (lv_at hl 0 rfl) ?_
            refine gX_1_7 S K w w94 dX7_mayBegin_98 ?_
            refine lv_if_ne (tgt := 108) S.1 S.2.1 dX7_mayBegin_101 (by decide) (fun c10 => ?_) (fun c10 => ?_)
            · have h := og_f c10 h
              refine lv_iconst (v := 0) S.1 S.2.1 dX7_mayBegin_108 (by decide) ?_
              exact z_retz S w hr hlk dX7_mayBegin_109 (by decide) (by rw [← h])
            · have h := og_t c10 h
              refine lv_iconst (v := 1) S.1 S.2.1 dX7_mayBegin_104 (by decide) ?_
              refine lv_goto (tgt := 109) S.1 S.2.1 dX7_mayBegin_105 (by decide) ?_
              exact z_retz S w hr hlk dX7_mayBegin_109 (by decide) (by rw [← h])
          · have h := og_f c9 h
            refine lv_lookup (tgt := 123) S.1 S.2.1 dX7_mayBegin_1 (by decide) (off := 122) (by show Op.lookupswitch.offset [(97, 81), (100, 109), (102, 66), (115, 51), (116, 96)] 122 _ = 122; rw [lv_osw (k := (97 : Int32)) c1 (by decide), lv_osw (k := (100 : Int32)) c3 (by decide), lv_osw (k := (102 : Int32)) c5 (by decide), lv_osw (k := (115 : Int32)) c7 (by decide), lv_osw (k := (116 : Int32)) c9 (by decide)]; rfl) (by decide) ?_
            refine lv_iconst (v := 0) S.1 S.2.1 dX7_mayBegin_123 (by decide) ?_
            exact z_retz S w hr hlk dX7_mayBegin_124 (by decide) (by rw [← h])
set_option maxHeartbeats 4000000 in
set_option maxRecDepth 100000 in
theorem c_X7_numbersDue (l : Launch) (D : va_G) (cs : Nat → ClassId) (ad : Nat → Nat) (F : ZF) (A : ZA) (T : Int64) (a0 : Int32) (q : Int32) (h : f_X7_numbersDue a0 F A T = q) : zMi l D cs (XWc cs ad 10 11) yX7_numbersDue cX7_numbersDue 2 (some .int) rm_X7_numbersDue ([.int a0, .ref (ad 11)] : List Value) F A T ((q, F, A, T) : Int32 × ZS) True := by
  refine z_enteri (by decide) (Nat.le_of_ble_eq_true rfl) ?_
  intro p e s m below meth c A0 ls S K w hA hr hlk hl
  have S : CallFix p m c cX7_numbersDue 2 s ([.int a0, .ref (ad 11)] : List Value).toArray zWs RX7 := S
  have hl : lv_has ls 2 [(0, .int a0), (1, .ref (ad 11))] := hl
  unfold f_X7_numbersDue at h
  refine lv_iload_n S.1 S.2.1 dX7_numbersDue_0 rfl (lv_at hl 0 rfl) ?_
  by_cases c1 : a0 = (97 : Int32)
  · have h := og_t c1 h
    refine lv_lookup (tgt := 43) S.1 S.2.1 dX7_numbersDue_1 (by decide) (off := 42) (by rw [c1]; decide) (by decide) ?_
    refine lv_iconst (v := 4) S.1 S.2.1 dX7_numbersDue_43 (by decide) ?_
    exact z_reti S w hr hlk dX7_numbersDue_44 trivial (by rw [← h])
  · have h := og_f c1 h
    by_cases c2 : a0 = (102 : Int32)
    · have h := og_t c2 h
      refine lv_lookup (tgt := 36) S.1 S.2.1 dX7_numbersDue_1 (by decide) (off := 35) (by rw [c2]; decide) (by decide) ?_
      refine lv_iconst (v := 2) S.1 S.2.1 dX7_numbersDue_36 (by decide) ?_
      refine lv_aload_n S.1 S.2.1 dX7_numbersDue_37 rfl (lv_at hl 1 rfl) ?_
      refine gX_11_0 S K w w226 dX7_numbersDue_38 ?_
      refine lv_iadd S.1 S.2.1 dX7_numbersDue_41 ?_
      exact z_reti S w hr hlk dX7_numbersDue_42 trivial (by rw [← h])
    · have h := og_f c2 h
      by_cases c3 : a0 = (116 : Int32)
      · have h := og_t c3 h
        refine lv_lookup (tgt := 45) S.1 S.2.1 dX7_numbersDue_1 (by decide) (off := 44) (by rw [c3]; decide) (by decide) ?_
        refine lv_iconst (v := 2) S.1 S.2.1 dX7_numbersDue_45 (by decide) ?_
        exact z_reti S w hr hlk dX7_numbersDue_46 trivial (by rw [← h])
      · have h := og_f c3 h
        refine lv_lookup (tgt := 47) S.1 S.2.1 dX7_numbersDue_1 (by decide) (off := 46) (by show Op.lookupswitch.offset [(97, 42), (102, 35), (116, 44)] 46 _ = 46; rw [lv_osw (k := (97 : Int32)) c1 (by decide), lv_osw (k := (102 : Int32)) c2 (by decide), lv_osw (k := (116 : Int32)) c3 (by decide)]; rfl) (by decide) ?_
        refine lv_iconst (v := 1) S.1 S.2.1 dX7_numbersDue_47 (by decide) ?_
        exact z_reti S w hr hlk dX7_numbersDue_48 trivial (by rw [← h])
set_option maxHeartbeats 4000000 in
set_option maxRecDepth 100000 in
theorem c_X1_addAlibi (l : Launch) (D : va_G) (cs : Nat → ClassId) (ad : Nat → Nat) (F : ZF) (A : ZA) (T : Int64) (q : ZS) (h : f_X1_addAlibi F A T = some q) : zMv l D cs (XWc cs ad 10 11) yX1_addAlibi cX1_addAlibi 2 none rm_X1_addAlibi ([.ref (ad 11), .ref (ad 13)] : List Value) F A T q := by
  refine z_enterv (by decide) (Nat.le_of_ble_eq_true rfl) ?_
  intro p e s m below meth c A0 ls S K w hA hr hlk hl
  have S : CallFix p m c cX1_addAlibi 2 s ([.ref (ad 11), .ref (ad 13)] : List Value).toArray zWs RX1 := S
  have hl : lv_has ls 2 [(0, .ref (ad 11)), (1, .ref (ad 13))] := hl
  unfold f_X1_addAlibi at h
  refine lv_aload_n S.1 S.2.1 dX1_addAlibi_0 rfl (lv_at hl 0 rfl) ?_
  refine gX_11_11 S K w w260 dX1_addAlibi_1 ?_
  refine lv_aload_n S.1 S.2.1 dX1_addAlibi_4 rfl (lv_at hl 0 rfl) ?_
  refine gX_11_2 S K w w232 dX1_addAlibi_5 ?_
  refine lv_aload_n S.1 S.2.1 dX1_addAlibi_8 rfl (lv_at hl 1 rfl) ?_
  refine lv_iconst (v := 0) S.1 S.2.1 dX1_addAlibi_9 (by decide) ?_
  refine aX_13 S K w gk_0_8 dX1_addAlibi_10 ?_
  obtain ⟨g1, h⟩ := og_g h
  refine sX_43 S K w g1 dX1_addAlibi_11 (fun H locs w => ?_)
  refine lv_aload_n S.1 S.2.1 dX1_addAlibi_12 rfl (lv_at hl 0 rfl) ?_
  refine gX_11_12 S K w w264 dX1_addAlibi_13 ?_
  refine lv_aload_n S.1 S.2.1 dX1_addAlibi_16 rfl (lv_at hl 0 rfl) ?_
  refine gX_11_2 S K w w232 dX1_addAlibi_17 ?_
  refine lv_aload_n S.1 S.2.1 dX1_addAlibi_20 rfl (lv_at hl 1 rfl) ?_
  refine lv_iconst (v := 1) S.1 S.2.1 dX1_addAlibi_21 (by decide) ?_
  refine aX_13 S K w gk_1_8 dX1_addAlibi_22 ?_
  obtain ⟨g2, h⟩ := og_g h
  refine sX_44 S K w g2 dX1_addAlibi_23 (fun H locs w => ?_)
  refine lv_aload_n S.1 S.2.1 dX1_addAlibi_24 rfl (lv_at hl 0 rfl) ?_
  refine gX_11_13 S K w w266 dX1_addAlibi_25 ?_
  refine lv_aload_n S.1 S.2.1 dX1_addAlibi_28 rfl (lv_at hl 0 rfl) ?_
  refine gX_11_2 S K w w232 dX1_addAlibi_29 ?_
  refine lv_aload_n S.1 S.2.1 dX1_addAlibi_32 rfl (lv_at hl 1 rfl) ?_
  refine lv_iconst (v := 2) S.1 S.2.1 dX1_addAlibi_33 (by decide) ?_
  refine aX_13 S K w gk_2_8 dX1_addAlibi_34 ?_
  obtain ⟨g3, h⟩ := og_g h
  refine sX_45 S K w g3 dX1_addAlibi_35 (fun H locs w => ?_)
  refine lv_aload_n S.1 S.2.1 dX1_addAlibi_36 rfl (lv_at hl 0 rfl) ?_
  refine gX_11_14 S K w w269 dX1_addAlibi_37 ?_
  refine lv_aload_n S.1 S.2.1 dX1_addAlibi_40 rfl (lv_at hl 0 rfl) ?_
  refine gX_11_2 S K w w232 dX1_addAlibi_41 ?_
  refine lv_aload_n S.1 S.2.1 dX1_addAlibi_44 rfl (lv_at hl 1 rfl) ?_
  refine lv_iconst (v := 3) S.1 S.2.1 dX1_addAlibi_45 (by decide) ?_
  refine aX_13 S K w gk_3_8 dX1_addAlibi_46 ?_
  obtain ⟨g4, h⟩ := og_g h
  refine sX_46 S K w g4 dX1_addAlibi_47 (fun H locs w => ?_)
  refine lv_aload_n S.1 S.2.1 dX1_addAlibi_48 rfl (lv_at hl 0 rfl) ?_
  refine lv_dup S.1 S.2.1 dX1_addAlibi_49 rfl ?_
  refine gX_11_2 S K w w232 dX1_addAlibi_50 ?_
  refine lv_iconst (v := 1) S.1 S.2.1 dX1_addAlibi_53 (by decide) ?_
  refine lv_iadd S.1 S.2.1 dX1_addAlibi_54 ?_
  refine pX_11_2 S K w w232 dX1_addAlibi_55 (fun H locs w => ?_)
  exact z_retv S w hr hlk dX1_addAlibi_58 (Option.some.inj h).symm
set_option maxHeartbeats 4000000 in
set_option maxRecDepth 100000 in
theorem c_X1_addFact (l : Launch) (D : va_G) (cs : Nat → ClassId) (ad : Nat → Nat) (F : ZF) (A : ZA) (T : Int64) (q : ZS) (h : f_X1_addFact F A T = some q) : zMv l D cs (XWc cs ad 10 11) yX1_addFact cX1_addFact 4 none rm_X1_addFact ([.ref (ad 11), .ref (ad 13)] : List Value) F A T q := by
  refine z_enterv (by decide) (Nat.le_of_ble_eq_true rfl) ?_
  intro p e s m below meth c A0 ls S K w hA hr hlk hl
  have S : CallFix p m c cX1_addFact 4 s ([.ref (ad 11), .ref (ad 13)] : List Value).toArray zWs RX1 := S
  have hl : lv_has ls 4 [(0, .ref (ad 11)), (1, .ref (ad 13))] := hl
  unfold f_X1_addFact at h
  have j26 : ∀ (n26 : Nat) (x2 : Int32) (F : ZF) (A : ZA) (T : Int64), f_X1_addFact_26 n26 x2 F A T = some q → ∀ (H : Heap) (locs : List Loc) (ls : Array Slot), lv_has ls 4 [(0, .ref (ad 11)), (1, .ref (ad 13)), (2, .int x2)] → ZW D A0 s.heap (XWc cs ad 10 11 F A T) H locs → W p l e rm_X1_addFact s m ([.ref (ad 11), .ref (ad 13)] : List Value).toArray below meth c H locs 0 0 (zQv (XWc cs ad 10 11) D A0 below ([.ref (ad 11), .ref (ad 13)] : List Value) s q) (F0 m 26 ls []) := by
    intro n26
    induction n26 with
    | zero =>
      intro x2 F A T h H locs ls hl w
      have h : (none : Option ZS) = some q := h
      cases h
    | succ n26 ih26 =>
      intro x2 F A T h H locs ls hl w
      rw [f_X1_addFact_26_s] at h
      have j52 : ∀ (x2 y0 : Int32) (F : ZF) (A : ZA) (T : Int64), f_X1_addFact_52 (f_X1_addFact_26 n26) x2 y0 F A T = some q → ∀ (H : Heap) (locs : List Loc) (ls : Array Slot), lv_has ls 4 [(0, .ref (ad 11)), (1, .ref (ad 13)), (2, .int x2)] → ZW D A0 s.heap (XWc cs ad 10 11 F A T) H locs → W p l e rm_X1_addFact s m ([.ref (ad 11), .ref (ad 13)] : List Value).toArray below meth c H locs 0 0 (zQv (XWc cs ad 10 11) D A0 below ([.ref (ad 11), .ref (ad 13)] : List Value) s q) (F0 m 52 ls [.int y0]) := by
        intro x2 y0 F A T h H locs ls hl w
        unfold f_X1_addFact_52 at h
        refine lv_istore_n (lv' := [(3, .int y0), (0, .ref (ad 11)), (1, .ref (ad 13)), (2, .int x2)]) S.1 S.2.1 dX1_addFact_52 rfl hl (by decide) rfl (fun ls hl => ?_)
        refine lv_aload_n S.1 S.2.1 dX1_addFact_53 rfl (lv_at hl 1 rfl) ?_
        refine gX_11_9 S K w w256 dX1_addFact_54 ?_
        refine lv_aload_n S.1 S.2.1 dX1_addFact_57 rfl (lv_at hl 1 rfl) ?_
        refine gX_11_1 S K w w228 dX1_addFact_58 ?_
        refine lv_bipush (v := 6) S.1 S.2.1 dX1_addFact_61 (by decide) ?_
        refine lv_imul S.1 S.2.1 dX1_addFact_63 ?_
        refine lv_iload_n S.1 S.2.1 dX1_addFact_64 rfl (lv_at hl 3 rfl) ?_
        refine lv_iadd S.1 S.2.1 dX1_addFact_65 ?_
        refine lv_iload_n S.1 S.2.1 dX1_addFact_66 rfl (lv_at hl 0 rfl) ?_
        obtain ⟨g4, h⟩ := og_g h
        refine sX_41 S K w g4 dX1_addFact_67 (fun H locs w => ?_)
        refine lv_aload_n S.1 S.2.1 dX1_addFact_68 rfl (lv_at hl 1 rfl) ?_
        refine gX_11_10 S K w w258 dX1_addFact_69 ?_
        refine lv_aload_n S.1 S.2.1 dX1_addFact_72 rfl (lv_at hl 1 rfl) ?_
        refine gX_11_1 S K w w228 dX1_addFact_73 ?_
        refine lv_bipush (v := 6) S.1 S.2.1 dX1_addFact_76 (by decide) ?_
        refine lv_imul S.1 S.2.1 dX1_addFact_78 ?_
        refine lv_iload_n S.1 S.2.1 dX1_addFact_79 rfl (lv_at hl 3 rfl) ?_
        refine lv_iadd S.1 S.2.1 dX1_addFact_80 ?_
        refine lv_iload_n S.1 S.2.1 dX1_addFact_81 rfl (lv_at hl 0 rfl) ?_
        refine lv_aload_n S.1 S.2.1 dX1_addFact_82 rfl (lv_at hl 2 rfl) ?_
        refine lv_iconst (v := 1) S.1 S.2.1 dX1_addFact_83 (by decide) ?_
        refine aX_13 S K w gk_1_8 dX1_addFact_84 ?_
        refine lv_imul S.1 S.2.1 dX1_addFact_85 ?_
        refine lv_bipush (v := 10) S.1 S.2.1 dX1_addFact_86 (by decide) ?_
        refine lv_idiv S.1 S.2.1 dX1_addFact_88 nz_10 ?_
        obtain ⟨g5, h⟩ := og_g h
        refine sX_42 S K w g5 dX1_addFact_89 (fun H locs w => ?_)
        refine lv_iinc (v := (x2 + (1 : Int32))) (lv' := [(2, .int (x2 + (1 : Int32))), (3, .int y0), (0, .ref (ad 11)), (1, .ref (ad 13))]) S.1 S.2.1 dX1_addFact_90 hl (k := 3) rfl rfl (by decide) rfl (fun ls hl => ?_)
        refine lv_goto (tgt := 26) S.1 S.2.1 dX1_addFact_93 (by decide) ?_
        exact ih26 _ _ _ _ h _ _ _ (lv_sub hl [2, 3, 0] rfl) w
      refine lv_iload_n S.1 S.2.1 dX1_addFact_26 rfl (lv_at hl 2 rfl) ?_
      refine lv_bipush (v := 6) S.1 S.2.1 dX1_addFact_27 (by decide) ?_
      refine lv_icmp_ge (tgt := 96) S.1 S.2.1 dX1_addFact_29 (by decide) (fun c1 => ?_) (fun c1 => ?_)
      · have h := og_t c1 h
        refine lv_aload_n S.1 S.2.1 dX1_addFact_96 rfl (lv_at hl 0 rfl) ?_
        refine lv_dup S.1 S.2.1 dX1_addFact_97 rfl ?_
        refine gX_11_1 S K w w228 dX1_addFact_98 ?_
        refine lv_iconst (v := 1) S.1 S.2.1 dX1_addFact_101 (by decide) ?_
        refine lv_iadd S.1 S.2.1 dX1_addFact_102 ?_
        refine pX_11_1 S K w w228 dX1_addFact_103 (fun H locs w => ?_)
        exact z_retv S w hr hlk dX1_addFact_106 (Option.some.inj h).symm
      · have h := og_f c1 h
        refine lv_iload_n S.1 S.2.1 dX1_addFact_32 rfl (lv_at hl 2 rfl) ?_
        refine lv_aload_n S.1 S.2.1 dX1_addFact_33 rfl (lv_at hl 0 rfl) ?_
        refine gX_11_0 S K w w224 dX1_addFact_34 ?_
        refine lv_icmp_ge (tgt := 51) S.1 S.2.1 dX1_addFact_37 (by decide) (fun c2 => ?_) (fun c2 => ?_)
        · have h := og_t c2 h
          refine lv_iconst (v := 0) S.1 S.2.1 dX1_addFact_51 (by decide) ?_
          exact j52 _ _ _ _ _ h _ _ _ (lv_sub hl [0, 1, 2] rfl) w
        · have h := og_f c2 h
          refine lv_aload_n S.1 S.2.1 dX1_addFact_40 rfl (lv_at hl 1 rfl) ?_
          refine lv_iconst (v := 2) S.1 S.2.1 dX1_addFact_41 (by decide) ?_
          refine lv_iload_n S.1 S.2.1 dX1_addFact_42 rfl (lv_at hl 2 rfl) ?_
          refine lv_iadd S.1 S.2.1 dX1_addFact_43 ?_
          obtain ⟨g3, h⟩ := og_g h
          refine aX_13 S K w g3 dX1_addFact_44 ?_
          refine lv_bipush (v := 9) S.1 S.2.1 dX1_addFact_45 (by decide) ?_
          refine lv_isub S.1 S.2.1 dX1_addFact_47 ?_
          refine lv_goto (tgt := 52) S.1 S.2.1 dX1_addFact_48 (by decide) ?_
          exact j52 _ _ _ _ _ h _ _ _ (lv_sub hl [0, 1, 2] rfl) w
  refine lv_aload_n S.1 S.2.1 dX1_addFact_0 rfl (lv_at hl 0 rfl) ?_
  refine gX_11_7 S K w w252 dX1_addFact_1 ?_
  refine lv_aload_n S.1 S.2.1 dX1_addFact_4 rfl (lv_at hl 0 rfl) ?_
  refine gX_11_1 S K w w228 dX1_addFact_5 ?_
  refine lv_aload_n S.1 S.2.1 dX1_addFact_8 rfl (lv_at hl 1 rfl) ?_
  refine lv_iconst (v := 0) S.1 S.2.1 dX1_addFact_9 (by decide) ?_
  refine aX_13 S K w gk_0_8 dX1_addFact_10 ?_
  obtain ⟨g6, h⟩ := og_g h
  refine sX_39 S K w g6 dX1_addFact_11 (fun H locs w => ?_)
  refine lv_aload_n S.1 S.2.1 dX1_addFact_12 rfl (lv_at hl 0 rfl) ?_
  refine gX_11_8 S K w w254 dX1_addFact_13 ?_
  refine lv_aload_n S.1 S.2.1 dX1_addFact_16 rfl (lv_at hl 0 rfl) ?_
  refine gX_11_1 S K w w228 dX1_addFact_17 ?_
  refine lv_aload_n S.1 S.2.1 dX1_addFact_20 rfl (lv_at hl 1 rfl) ?_
  refine lv_iconst (v := 1) S.1 S.2.1 dX1_addFact_21 (by decide) ?_
  refine aX_13 S K w gk_1_8 dX1_addFact_22 ?_
  obtain ⟨g7, h⟩ := og_g h
  refine sX_40 S K w g7 dX1_addFact_23 (fun H locs w => ?_)
  refine lv_iconst (v := 0) S.1 S.2.1 dX1_addFact_24 (by decide) ?_
  refine lv_istore_n (lv' := [(2, .int (0 : Int32)), (0, .ref (ad 11)), (1, .ref (ad 13))]) S.1 S.2.1 dX1_addFact_25 rfl hl (by decide) rfl (fun ls hl => ?_)
  exact j26 1000 _ _ _ _ h _ _ _ (lv_sub hl [1, 2, 0] rfl) w
set_option maxHeartbeats 4000000 in
set_option maxRecDepth 100000 in
theorem c_X1_addSuspect (l : Launch) (D : va_G) (cs : Nat → ClassId) (ad : Nat → Nat) (F : ZF) (A : ZA) (T : Int64) (a0 : Int32) (q : ZS) (h : f_X1_addSuspect a0 F A T = some q) : zMv l D cs (XWc cs ad 10 11) yX1_addSuspect cX1_addSuspect 2 none rm_X1_addSuspect ([.ref (ad 11), .int a0] : List Value) F A T q := by
  refine z_enterv (by decide) (Nat.le_of_ble_eq_true rfl) ?_
  intro p e s m below meth c A0 ls S K w hA hr hlk hl
  have S : CallFix p m c cX1_addSuspect 2 s ([.ref (ad 11), .int a0] : List Value).toArray zWs RX1 := S
  have hl : lv_has ls 2 [(0, .ref (ad 11)), (1, .int a0)] := hl
  unfold f_X1_addSuspect at h
  refine lv_aload_n S.1 S.2.1 dX1_addSuspect_0 rfl (lv_at hl 0 rfl) ?_
  refine gX_11_6 S K w w248 dX1_addSuspect_1 ?_
  refine lv_aload_n S.1 S.2.1 dX1_addSuspect_4 rfl (lv_at hl 0 rfl) ?_
  refine gX_11_0 S K w w224 dX1_addSuspect_5 ?_
  refine lv_iload_n S.1 S.2.1 dX1_addSuspect_8 rfl (lv_at hl 1 rfl) ?_
  obtain ⟨g1, h⟩ := og_g h
  refine sX_38 S K w g1 dX1_addSuspect_9 (fun H locs w => ?_)
  refine lv_aload_n S.1 S.2.1 dX1_addSuspect_10 rfl (lv_at hl 0 rfl) ?_
  refine lv_dup S.1 S.2.1 dX1_addSuspect_11 rfl ?_
  refine gX_11_0 S K w w224 dX1_addSuspect_12 ?_
  refine lv_iconst (v := 1) S.1 S.2.1 dX1_addSuspect_15 (by decide) ?_
  refine lv_iadd S.1 S.2.1 dX1_addSuspect_16 ?_
  refine pX_11_0 S K w w224 dX1_addSuspect_17 (fun H locs w => ?_)
  exact z_retv S w hr hlk dX1_addSuspect_20 (Option.some.inj h).symm
set_option maxHeartbeats 4000000 in
set_option maxRecDepth 100000 in
theorem c_X7_addItem (l : Launch) (D : va_G) (cs : Nat → ClassId) (ad : Nat → Nat) (F : ZF) (A : ZA) (T : Int64) (a0 : Int32) (q : ZS) (h : f_X7_addItem a0 F A T = some q) : zMv l D cs (XWc cs ad 10 11) yX7_addItem cX7_addItem 3 none rm_X7_addItem ([.ref (ad 1), .int a0, .ref (ad 11)] : List Value) F A T q := by
  refine z_enterv (by decide) (Nat.le_of_ble_eq_true rfl) ?_
  intro p e s m below meth c A0 ls S K w hA hr hlk hl
  have S : CallFix p m c cX7_addItem 3 s ([.ref (ad 1), .int a0, .ref (ad 11)] : List Value).toArray zWs RX7 := S
  have hl : lv_has ls 3 [(0, .ref (ad 1)), (1, .int a0), (2, .ref (ad 11))] := hl
  unfold f_X7_addItem at h
  refine lv_iload_n S.1 S.2.1 dX7_addItem_0 rfl (lv_at hl 1 rfl) ?_
  by_cases c1 : a0 = (97 : Int32)
  · have h := og_t c1 h
    refine lv_lookup (tgt := 68) S.1 S.2.1 dX7_addItem_1 (by decide) (off := 67) (by rw [c1]; decide) (by decide) ?_
    refine lv_aload_n S.1 S.2.1 dX7_addItem_68 rfl (lv_at hl 2 rfl) ?_
    refine lv_aload_n S.1 S.2.1 dX7_addItem_69 rfl (lv_at hl 0 rfl) ?_
    refine gX_1_2 S K w w89 dX7_addItem_70 ?_
    obtain ⟨q2, e3, h⟩ := og_b h
    refine z_callVv S K w hA (c_X1_addAlibi l D cs ad F A T q2 e3) (cw_X7_94 S.2.2.2.2 ⟨Nat.le_of_ble_eq_true rfl, Nat.le_of_ble_eq_true rfl⟩) (z_recv K w 11 1 rfl rfl) rfl hl.1 rfl (Nat.le_of_ble_eq_true rfl) ⟨Nat.zero_le _, Nat.zero_le _⟩ dX7_addItem_73 (fun H locs w => ?_)
    refine lv_goto (tgt := 122) S.1 S.2.1 dX7_addItem_76 (by decide) ?_
    exact z_retv S w hr hlk dX7_addItem_122 (Option.some.inj h).symm
  · have h := og_f c1 h
    by_cases c4 : a0 = (102 : Int32)
    · have h := og_t c4 h
      refine lv_lookup (tgt := 57) S.1 S.2.1 dX7_addItem_1 (by decide) (off := 56) (by rw [c4]; decide) (by decide) ?_
      refine lv_aload_n S.1 S.2.1 dX7_addItem_57 rfl (lv_at hl 2 rfl) ?_
      refine lv_aload_n S.1 S.2.1 dX7_addItem_58 rfl (lv_at hl 0 rfl) ?_
      refine gX_1_2 S K w w89 dX7_addItem_59 ?_
      obtain ⟨q5, e6, h⟩ := og_b h
      refine z_callVv S K w hA (c_X1_addFact l D cs ad F A T q5 e6) (cw_X7_90 S.2.2.2.2 ⟨Nat.le_of_ble_eq_true rfl, Nat.le_of_ble_eq_true rfl⟩) (z_recv K w 11 1 rfl rfl) rfl hl.1 rfl (Nat.le_of_ble_eq_true rfl) ⟨Nat.zero_le _, Nat.zero_le _⟩ dX7_addItem_62 (fun H locs w => ?_)
      refine lv_goto (tgt := 122) S.1 S.2.1 dX7_addItem_65 (by decide) ?_
      exact z_retv S w hr hlk dX7_addItem_122 (Option.some.inj h).symm
    · have h := og_f c4 h
      by_cases c7 : a0 = (115 : Int32)
      · have h := og_t c7 h
        refine lv_lookup (tgt := 44) S.1 S.2.1 dX7_addItem_1 (by decide) (off := 43) (by rw [c7]; decide) (by decide) ?_
        refine lv_aload_n S.1 S.2.1 dX7_addItem_44 rfl (lv_at hl 2 rfl) ?_
        refine lv_aload_n S.1 S.2.1 dX7_addItem_45 rfl (lv_at hl 0 rfl) ?_
        refine gX_1_2 S K w w89 dX7_addItem_46 ?_
        refine lv_iconst (v := 0) S.1 S.2.1 dX7_addItem_49 (by decide) ?_
        refine aX_13 S K w gk_0_8 dX7_addItem_50 ?_
        obtain ⟨q8, e9, h⟩ := og_b h
        refine z_callVv S K w hA (c_X1_addSuspect l D cs ad F A T (A 13 ((0 : Int32)).toNatClampNeg) q8 e9) (cw_X7_86 S.2.2.2.2 ⟨Nat.le_of_ble_eq_true rfl, Nat.le_of_ble_eq_true rfl⟩) (z_recv K w 11 1 rfl rfl) rfl hl.1 rfl (Nat.le_of_ble_eq_true rfl) ⟨Nat.zero_le _, Nat.zero_le _⟩ dX7_addItem_51 (fun H locs w => ?_)
        refine lv_goto (tgt := 122) S.1 S.2.1 dX7_addItem_54 (by decide) ?_
        exact z_retv S w hr hlk dX7_addItem_122 (Option.some.inj h).symm
      · have h := og_f c7 h
        by_cases c10 : a0 = (116 : Int32)
        · have h := og_t c10 h
          refine lv_lookup (tgt := 79) S.1 S.2.1 dX7_addItem_1 (by decide) (off := 78) (by rw [c10]; decide) (by decide) ?_
          refine lv_aload_n S.1 S.2.1 dX7_addItem_79 rfl (lv_at hl 2 rfl) ?_
          refine lv_aload_n S.1 S.2.1 dX7_addItem_80 rfl (lv_at hl 0 rfl) ?_
          refine gX_1_2 S K w w89 dX7_addItem_81 ?_
          refine lv_iconst (v := 0) S.1 S.2.1 dX7_addItem_84 (by decide) ?_
          refine aX_13 S K w gk_0_8 dX7_addItem_85 ?_
          refine pX_11_3 S K w w239 dX7_addItem_86 (fun H locs w => ?_)
          refine lv_aload_n S.1 S.2.1 dX7_addItem_89 rfl (lv_at hl 2 rfl) ?_
          refine lv_aload_n S.1 S.2.1 dX7_addItem_90 rfl (lv_at hl 0 rfl) ?_
          refine gX_1_2 S K w w89 dX7_addItem_91 ?_
          refine lv_iconst (v := 1) S.1 S.2.1 dX7_addItem_94 (by decide) ?_
          refine aX_13 S K w gk_1_8 dX7_addItem_95 ?_
          refine pX_11_4 S K w w243 dX7_addItem_96 (fun H locs w => ?_)
          refine lv_aload_n S.1 S.2.1 dX7_addItem_99 rfl (lv_at hl 0 rfl) ?_
          refine lv_iconst (v := 1) S.1 S.2.1 dX7_addItem_100 (by decide) ?_
          refine pX_1_7 S K w rfl rfl w94 dX7_addItem_101 (fun H locs w => ?_)
          refine lv_goto (tgt := 122) S.1 S.2.1 dX7_addItem_104 (by decide) ?_
          exact z_retv S w hr hlk dX7_addItem_122 (Option.some.inj h).symm
        · have h := og_f c10 h
          refine lv_lookup (tgt := 107) S.1 S.2.1 dX7_addItem_1 (by decide) (off := 106) (by show Op.lookupswitch.offset [(97, 67), (102, 56), (115, 43), (116, 78)] 106 _ = 106; rw [lv_osw (k := (97 : Int32)) c1 (by decide), lv_osw (k := (102 : Int32)) c4 (by decide), lv_osw (k := (115 : Int32)) c7 (by decide), lv_osw (k := (116 : Int32)) c10 (by decide)]; rfl) (by decide) ?_
          refine lv_aload_n S.1 S.2.1 dX7_addItem_107 rfl (lv_at hl 2 rfl) ?_
          refine lv_aload_n S.1 S.2.1 dX7_addItem_108 rfl (lv_at hl 0 rfl) ?_
          refine gX_1_2 S K w w89 dX7_addItem_109 ?_
          refine lv_iconst (v := 0) S.1 S.2.1 dX7_addItem_112 (by decide) ?_
          refine aX_13 S K w gk_0_8 dX7_addItem_113 ?_
          refine pX_11_5 S K w w247 dX7_addItem_114 (fun H locs w => ?_)
          refine lv_aload_n S.1 S.2.1 dX7_addItem_117 rfl (lv_at hl 0 rfl) ?_
          refine lv_iconst (v := 1) S.1 S.2.1 dX7_addItem_118 (by decide) ?_
          refine pX_1_8 S K w rfl rfl w95 dX7_addItem_119 (fun H locs w => ?_)
          exact z_retv S w hr hlk dX7_addItem_122 (Option.some.inj h).symm
set_option maxHeartbeats 4000000 in
set_option maxRecDepth 100000 in
theorem c_X7_least (l : Launch) (D : va_G) (cs : Nat → ClassId) (ad : Nat → Nat) (F : ZF) (A : ZA) (T : Int64) (a0 a1 : Int32) (q : Int32) (h : f_X7_least a0 a1 F A T = q) : zMi l D cs (XWc cs ad 10 11) yX7_least cX7_least 3 (some .int) rm_X7_least ([.ref (ad 1), .int a0, .int a1] : List Value) F A T ((q, F, A, T) : Int32 × ZS) True := by
  refine z_enteri (by decide) (Nat.le_of_ble_eq_true rfl) ?_
  intro p e s m below meth c A0 ls S K w hA hr hlk hl
  have S : CallFix p m c cX7_least 3 s ([.ref (ad 1), .int a0, .int a1] : List Value).toArray zWs RX7 := S
  have hl : lv_has ls 3 [(0, .ref (ad 1)), (1, .int a0), (2, .int a1)] := hl
  unfold f_X7_least at h
  have j12 : ∀ (x1 x2 : Int32), f_X7_least_12 F A T x1 x2 = q → ∀ (H : Heap) (locs : List Loc) (ls : Array Slot), lv_has ls 3 [(0, .ref (ad 1)), (1, .int x1), (2, .int x2)] → ZW D A0 s.heap (XWc cs ad 10 11 F A T) H locs → W p l e rm_X7_least s m ([.ref (ad 1), .int a0, .int a1] : List Value).toArray below meth c H locs 0 0 (zQi (XWc cs ad 10 11) D A0 below ([.ref (ad 1), .int a0, .int a1] : List Value) s ((q, F, A, T) : Int32 × ZS) True) (F0 m 12 ls []) := by
    intro x1 x2 h H locs ls hl w
    unfold f_X7_least_12 at h
    have j30 : ∀ (x1 x2 : Int32), f_X7_least_30 F A T x1 x2 = q → ∀ (H : Heap) (locs : List Loc) (ls : Array Slot), lv_has ls 3 [(0, .ref (ad 1)), (1, .int x1), (2, .int x2)] → ZW D A0 s.heap (XWc cs ad 10 11 F A T) H locs → W p l e rm_X7_least s m ([.ref (ad 1), .int a0, .int a1] : List Value).toArray below meth c H locs 0 0 (zQi (XWc cs ad 10 11) D A0 below ([.ref (ad 1), .int a0, .int a1] : List Value) s ((q, F, A, T) : Int32 × ZS) True) (F0 m 30 ls []) := by
      intro x1 x2 h H locs ls hl w
      unfold f_X7_least_30 at h
      refine lv_iload_n S.1 S.2.1 dX7_least_30 rfl (lv_at hl 1 rfl) ?_
      refine lv_bipush (v := 116) S.1 S.2.1 dX7_least_31 (by decide) ?_
      refine lv_icmp_ne (tgt := 50) S.1 S.2.1 dX7_least_33 (by decide) (fun c3 => ?_) (fun c3 => ?_)
      · have h := og_f c3 h
        refine lv_iconst (v := 0) S.1 S.2.1 dX7_least_50 (by decide) ?_
        exact z_reti S w hr hlk dX7_least_51 trivial (by rw [← h])
      · have h := og_t c3 h
        refine lv_iload_n S.1 S.2.1 dX7_least_36 rfl (lv_at hl 2 rfl) ?_
        refine lv_iconst (v := 1) S.1 S.2.1 dX7_least_37 (by decide) ?_
        refine lv_icmp_ne (tgt := 50) S.1 S.2.1 dX7_least_38 (by decide) (fun c4 => ?_) (fun c4 => ?_)
        · have h := og_f c4 h
          refine lv_iconst (v := 0) S.1 S.2.1 dX7_least_50 (by decide) ?_
          exact z_reti S w hr hlk dX7_least_51 trivial (by rw [← h])
        · have h := og_t c4 h
          refine lv_aload_n S.1 S.2.1 dX7_least_41 rfl (lv_at hl 0 rfl) ?_
          refine gX_1_2 S K w w89 dX7_least_42 ?_
          refine lv_iconst (v := 0) S.1 S.2.1 dX7_least_45 (by decide) ?_
          refine aX_13 S K w gk_0_8 dX7_least_46 ?_
          refine lv_goto (tgt := 51) S.1 S.2.1 dX7_least_47 (by decide) ?_
          exact z_reti S w hr hlk dX7_least_51 trivial (by rw [← h])
    refine lv_iload_n S.1 S.2.1 dX7_least_12 rfl (lv_at hl 1 rfl) ?_
    refine lv_bipush (v := 97) S.1 S.2.1 dX7_least_13 (by decide) ?_
    refine lv_icmp_ne (tgt := 30) S.1 S.2.1 dX7_least_15 (by decide) (fun c1 => ?_) (fun c1 => ?_)
    · have h := og_f c1 h
      exact j30 _ _ h _ _ _ (lv_sub hl [0, 1, 2] rfl) w
    · have h := og_t c1 h
      refine lv_iload_n S.1 S.2.1 dX7_least_18 rfl (lv_at hl 2 rfl) ?_
      refine lv_iconst (v := 3) S.1 S.2.1 dX7_least_19 (by decide) ?_
      refine lv_icmp_ne (tgt := 30) S.1 S.2.1 dX7_least_20 (by decide) (fun c2 => ?_) (fun c2 => ?_)
      · have h := og_f c2 h
        exact j30 _ _ h _ _ _ (lv_sub hl [0, 1, 2] rfl) w
      · have h := og_t c2 h
        refine lv_aload_n S.1 S.2.1 dX7_least_23 rfl (lv_at hl 0 rfl) ?_
        refine gX_1_2 S K w w89 dX7_least_24 ?_
        refine lv_iconst (v := 2) S.1 S.2.1 dX7_least_27 (by decide) ?_
        refine aX_13 S K w gk_2_8 dX7_least_28 ?_
        exact z_reti S w hr hlk dX7_least_29 trivial (by rw [← h])
  refine lv_iload_n S.1 S.2.1 dX7_least_0 rfl (lv_at hl 1 rfl) ?_
  refine lv_bipush (v := 102) S.1 S.2.1 dX7_least_1 (by decide) ?_
  refine lv_icmp_ne (tgt := 12) S.1 S.2.1 dX7_least_3 (by decide) (fun c5 => ?_) (fun c5 => ?_)
  · have h := og_f c5 h
    exact j12 _ _ h _ _ _ (lv_sub hl [0, 1, 2] rfl) w
  · have h := og_t c5 h
    refine lv_iload_n S.1 S.2.1 dX7_least_6 rfl (lv_at hl 2 rfl) ?_
    refine lv_if_ne (tgt := 12) S.1 S.2.1 dX7_least_7 (by decide) (fun c6 => ?_) (fun c6 => ?_)
    · have h := og_f c6 h
      exact j12 _ _ h _ _ _ (lv_sub hl [0, 1, 2] rfl) w
    · have h := og_t c6 h
      refine lv_iconst (v := 1) S.1 S.2.1 dX7_least_10 (by decide) ?_
      exact z_reti S w hr hlk dX7_least_11 trivial (by rw [← h])
set_option maxHeartbeats 4000000 in
set_option maxRecDepth 100000 in
theorem c_X7_most (l : Launch) (D : va_G) (cs : Nat → ClassId) (ad : Nat → Nat) (F : ZF) (A : ZA) (T : Int64) (a0 a1 : Int32) (q : Int32) (h : f_X7_most a0 a1 F A T = q) : zMi l D cs (XWc cs ad 10 11) yX7_most cX7_most 3 (some .int) rm_X7_most ([.int a0, .int a1, .ref (ad 11)] : List Value) F A T ((q, F, A, T) : Int32 × ZS) True := by
  refine z_enteri (by decide) (Nat.le_of_ble_eq_true rfl) ?_
  intro p e s m below meth c A0 ls S K w hA hr hlk hl
  have S : CallFix p m c cX7_most 3 s ([.int a0, .int a1, .ref (ad 11)] : List Value).toArray zWs RX7 := S
  have hl : lv_has ls 3 [(0, .int a0), (1, .int a1), (2, .ref (ad 11))] := hl
  unfold f_X7_most at h
  refine lv_iload_n S.1 S.2.1 dX7_most_0 rfl (lv_at hl 0 rfl) ?_
  by_cases c1 : a0 = (97 : Int32)
  · have h := og_t c1 h
    refine lv_lookup (tgt := 69) S.1 S.2.1 dX7_most_1 (by decide) (off := 68) (by rw [c1]; decide) (by decide) ?_
    refine lv_iload_n S.1 S.2.1 dX7_most_69 rfl (lv_at hl 1 rfl) ?_
    refine lv_if_ne (tgt := 82) S.1 S.2.1 dX7_most_70 (by decide) (fun c2 => ?_) (fun c2 => ?_)
    · have h := og_f c2 h
      refine lv_iload_n S.1 S.2.1 dX7_most_82 rfl (lv_at hl 1 rfl) ?_
      refine lv_iconst (v := 1) S.1 S.2.1 dX7_most_83 (by decide) ?_
      refine lv_icmp_ne (tgt := 91) S.1 S.2.1 dX7_most_84 (by decide) (fun c3 => ?_) (fun c3 => ?_)
      · have h := og_f c3 h
        refine lv_bipush (v := 23) S.1 S.2.1 dX7_most_91 (by decide) ?_
        exact z_reti S w hr hlk dX7_most_93 trivial (by rw [← h])
      · have h := og_t c3 h
        refine lv_iconst (v := 3) S.1 S.2.1 dX7_most_87 (by decide) ?_
        refine lv_goto (tgt := 93) S.1 S.2.1 dX7_most_88 (by decide) ?_
        exact z_reti S w hr hlk dX7_most_93 trivial (by rw [← h])
    · have h := og_t c2 h
      refine lv_aload_n S.1 S.2.1 dX7_most_73 rfl (lv_at hl 2 rfl) ?_
      refine gX_11_0 S K w w226 dX7_most_74 ?_
      refine lv_iconst (v := 1) S.1 S.2.1 dX7_most_77 (by decide) ?_
      refine lv_isub S.1 S.2.1 dX7_most_78 ?_
      refine lv_goto (tgt := 93) S.1 S.2.1 dX7_most_79 (by decide) ?_
      exact z_reti S w hr hlk dX7_most_93 trivial (by rw [← h])
  · have h := og_f c1 h
    by_cases c4 : a0 = (102 : Int32)
    · have h := og_t c4 h
      refine lv_lookup (tgt := 47) S.1 S.2.1 dX7_most_1 (by decide) (off := 46) (by rw [c4]; decide) (by decide) ?_
      refine lv_iload_n S.1 S.2.1 dX7_most_47 rfl (lv_at hl 1 rfl) ?_
      refine lv_if_ne (tgt := 56) S.1 S.2.1 dX7_most_48 (by decide) (fun c5 => ?_) (fun c5 => ?_)
      · have h := og_f c5 h
        refine lv_iload_n S.1 S.2.1 dX7_most_56 rfl (lv_at hl 1 rfl) ?_
        refine lv_iconst (v := 1) S.1 S.2.1 dX7_most_57 (by decide) ?_
        refine lv_icmp_ne (tgt := 66) S.1 S.2.1 dX7_most_58 (by decide) (fun c6 => ?_) (fun c6 => ?_)
        · have h := og_f c6 h
          refine lv_bipush (v := 18) S.1 S.2.1 dX7_most_66 (by decide) ?_
          exact z_reti S w hr hlk dX7_most_68 trivial (by rw [← h])
        · have h := og_t c6 h
          refine lv_bipush (v := 10) S.1 S.2.1 dX7_most_61 (by decide) ?_
          refine lv_goto (tgt := 68) S.1 S.2.1 dX7_most_63 (by decide) ?_
          exact z_reti S w hr hlk dX7_most_68 trivial (by rw [← h])
      · have h := og_t c5 h
        refine lv_bipush (v := 9) S.1 S.2.1 dX7_most_51 (by decide) ?_
        refine lv_goto (tgt := 68) S.1 S.2.1 dX7_most_53 (by decide) ?_
        exact z_reti S w hr hlk dX7_most_68 trivial (by rw [← h])
    · have h := og_f c4 h
      by_cases c7 : a0 = (115 : Int32)
      · have h := og_t c7 h
        refine lv_lookup (tgt := 44) S.1 S.2.1 dX7_most_1 (by decide) (off := 43) (by rw [c7]; decide) (by decide) ?_
        refine lv_bipush (v := 20) S.1 S.2.1 dX7_most_44 (by decide) ?_
        exact z_reti S w hr hlk dX7_most_46 trivial (by rw [← h])
      · have h := og_f c7 h
        by_cases c8 : a0 = (116 : Int32)
        · have h := og_t c8 h
          refine lv_lookup (tgt := 94) S.1 S.2.1 dX7_most_1 (by decide) (off := 93) (by rw [c8]; decide) (by decide) ?_
          refine lv_bipush (v := 23) S.1 S.2.1 dX7_most_94 (by decide) ?_
          exact z_reti S w hr hlk dX7_most_96 trivial (by rw [← h])
        · have h := og_f c8 h
          refine lv_lookup (tgt := 97) S.1 S.2.1 dX7_most_1 (by decide) (off := 96) (by show Op.lookupswitch.offset [(97, 68), (102, 46), (115, 43), (116, 93)] 96 _ = 96; rw [lv_osw (k := (97 : Int32)) c1 (by decide), lv_osw (k := (102 : Int32)) c4 (by decide), lv_osw (k := (115 : Int32)) c7 (by decide), lv_osw (k := (116 : Int32)) c8 (by decide)]; rfl) (by decide) ?_
          refine lv_bipush (v := 60) S.1 S.2.1 dX7_most_97 (by decide) ?_
          exact z_reti S w hr hlk dX7_most_99 trivial (by rw [← h])
set_option maxHeartbeats 4000000 in
set_option maxRecDepth 100000 in
theorem c_X7_readItem (l : Launch) (D : va_G) (cs : Nat → ClassId) (ad : Nat → Nat) (F : ZF) (A : ZA) (T : Int64) (q : (Int32 × ZS)) (h : f_X7_readItem F A T = some q) : zMi l D cs (XWc cs ad 10 11) yX7_readItem cX7_readItem 5 (some .boolean) rm_X7_readItem ([.ref (ad 1), .ref (ad 11)] : List Value) F A T q (q.1 &&& 1 = q.1) := by
  refine z_enteri (by decide) (Nat.le_of_ble_eq_true rfl) ?_
  intro p e s m below meth c A0 ls S K w hA hr hlk hl
  have S : CallFix p m c cX7_readItem 5 s ([.ref (ad 1), .ref (ad 11)] : List Value).toArray zWs RX7 := S
  have hl : lv_has ls 5 [(0, .ref (ad 1)), (1, .ref (ad 11))] := hl
  unfold f_X7_readItem at h
  have j36 : ∀ (n36 : Nat) (x2 x3 x4 : Int32) (F : ZF) (A : ZA) (T : Int64), f_X7_readItem_36 n36 x2 x3 x4 F A T = some q → ∀ (H : Heap) (locs : List Loc) (ls : Array Slot), lv_has ls 5 [(0, .ref (ad 1)), (1, .ref (ad 11)), (2, .int x2), (3, .int x3), (4, .int x4)] → ZW D A0 s.heap (XWc cs ad 10 11 F A T) H locs → W p l e rm_X7_readItem s m ([.ref (ad 1), .ref (ad 11)] : List Value).toArray below meth c H locs 0 0 (zQi (XWc cs ad 10 11) D A0 below ([.ref (ad 1), .ref (ad 11)] : List Value) s q (q.1 &&& 1 = q.1)) (F0 m 36 ls []) := by
    intro n36
    induction n36 with
    | zero =>
      intro x2 x3 x4 F A T h H locs ls hl w
      have h : (none : Option (Int32 × ZS)) = some q := h
      cases h
    | succ n36 ih36 =>
      intro x2 x3 x4 F A T h H locs ls hl w
      rw [f_X7_readItem_36_s] at h
      refine lv_iload S.1 S.2.1 dX7_readItem_36 (lv_at hl 4 rfl) ?_
      refine lv_iload_n S.1 S.2.1 dX7_readItem_38 rfl (lv_at hl 3 rfl) ?_
      refine lv_icmp_ge (tgt := 97) S.1 S.2.1 dX7_readItem_39 (by decide) (fun c1 => ?_) (fun c1 => ?_)
      · have h := og_t c1 h
        refine lv_aload_n S.1 S.2.1 dX7_readItem_97 rfl (lv_at hl 0 rfl) ?_
        obtain ⟨q2, e3, h⟩ := og_b h
        refine z_callVv S K w hA (c_X7_nextToken l D cs ad F A T q2 e3) (cw_X7_34 S.2.2.2.2 ⟨Nat.le_of_ble_eq_true rfl, Nat.le_of_ble_eq_true rfl⟩) (z_recv K w 1 7 rfl rfl) rfl hl.1 rfl (Nat.le_of_ble_eq_true rfl) ⟨Nat.zero_le _, Nat.zero_le _⟩ dX7_readItem_98 (fun H locs w => ?_)
        refine lv_aload_n S.1 S.2.1 dX7_readItem_101 rfl (lv_at hl 0 rfl) ?_
        refine gX_1_4 S K w w91 dX7_readItem_102 ?_
        refine lv_iconst (v := 3) S.1 S.2.1 dX7_readItem_105 (by decide) ?_
        refine lv_icmp_eq (tgt := 111) S.1 S.2.1 dX7_readItem_106 (by decide) (fun c4 => ?_) (fun c4 => ?_)
        · have h := og_t c4 h
          refine lv_aload_n S.1 S.2.1 dX7_readItem_111 rfl (lv_at hl 0 rfl) ?_
          refine lv_iload_n S.1 S.2.1 dX7_readItem_112 rfl (lv_at hl 2 rfl) ?_
          refine lv_aload_n S.1 S.2.1 dX7_readItem_113 rfl (lv_at hl 1 rfl) ?_
          obtain ⟨q5, e6, h⟩ := og_b h
          refine z_callVv S K w hA (c_X7_addItem l D cs ad q2.1 q2.2.1 q2.2.2 x2 q5 e6) (cw_X7_73 S.2.2.2.2 ⟨Nat.le_of_ble_eq_true rfl, Nat.le_of_ble_eq_true rfl⟩) (z_recv K w 1 7 rfl rfl) rfl hl.1 rfl (Nat.le_of_ble_eq_true rfl) ⟨Nat.zero_le _, Nat.zero_le _⟩ dX7_readItem_114 (fun H locs w => ?_)
          refine lv_iconst (v := 1) S.1 S.2.1 dX7_readItem_117 (by decide) ?_
          exact z_retz S w hr hlk dX7_readItem_118 (by decide) (Option.some.inj h).symm
        · have h := og_f c4 h
          refine lv_iconst (v := 0) S.1 S.2.1 dX7_readItem_109 (by decide) ?_
          exact z_retz S w hr hlk dX7_readItem_110 (by decide) (Option.some.inj h).symm
      · have h := og_f c1 h
        refine lv_aload_n S.1 S.2.1 dX7_readItem_42 rfl (lv_at hl 0 rfl) ?_
        obtain ⟨q7, e8, h⟩ := og_b h
        refine z_callVv S K w hA (c_X7_nextToken l D cs ad F A T q7 e8) (cw_X7_34 S.2.2.2.2 ⟨Nat.le_of_ble_eq_true rfl, Nat.le_of_ble_eq_true rfl⟩) (z_recv K w 1 7 rfl rfl) rfl hl.1 rfl (Nat.le_of_ble_eq_true rfl) ⟨Nat.zero_le _, Nat.zero_le _⟩ dX7_readItem_43 (fun H locs w => ?_)
        refine lv_aload_n S.1 S.2.1 dX7_readItem_46 rfl (lv_at hl 0 rfl) ?_
        refine gX_1_4 S K w w91 dX7_readItem_47 ?_
        refine lv_iconst (v := 2) S.1 S.2.1 dX7_readItem_50 (by decide) ?_
        refine lv_icmp_ne (tgt := 78) S.1 S.2.1 dX7_readItem_51 (by decide) (fun c9 => ?_) (fun c9 => ?_)
        · have h := og_f c9 h
          refine lv_iconst (v := 0) S.1 S.2.1 dX7_readItem_78 (by decide) ?_
          exact z_retz S w hr hlk dX7_readItem_79 (by decide) (Option.some.inj h).symm
        · have h := og_t c9 h
          refine lv_aload_n S.1 S.2.1 dX7_readItem_54 rfl (lv_at hl 0 rfl) ?_
          refine gX_1_6 S K w w93 dX7_readItem_55 ?_
          refine lv_aload_n S.1 S.2.1 dX7_readItem_58 rfl (lv_at hl 0 rfl) ?_
          refine lv_iload_n S.1 S.2.1 dX7_readItem_59 rfl (lv_at hl 2 rfl) ?_
          refine lv_iload S.1 S.2.1 dX7_readItem_60 (lv_at hl 4 rfl) ?_
          refine z_callVr S K w hA (c_X7_least l D cs ad q7.1 q7.2.1 q7.2.2 x2 x4 (f_X7_least x2 x4 q7.1 q7.2.1 q7.2.2) rfl) (cw_X7_61 S.2.2.2.2 ⟨Nat.le_of_ble_eq_true rfl, Nat.le_of_ble_eq_true rfl⟩) (z_recv K w 1 7 rfl rfl) rfl hl.1 rfl (Nat.le_of_ble_eq_true rfl) ⟨Nat.zero_le _, Nat.zero_le _⟩ dX7_readItem_62 (fun b10 H locs w => ?_)
          refine lv_iload_n S.1 S.2.1 dX7_readItem_65 rfl (lv_at hl 2 rfl) ?_
          refine lv_iload S.1 S.2.1 dX7_readItem_66 (lv_at hl 4 rfl) ?_
          refine lv_aload_n S.1 S.2.1 dX7_readItem_68 rfl (lv_at hl 1 rfl) ?_
          refine z_callSr S K w hA (c_X7_most l D cs ad q7.1 q7.2.1 q7.2.2 x2 x4 (f_X7_most x2 x4 q7.1 q7.2.1 q7.2.2) rfl) (cw_X7_65 S.2.2.2.2 ⟨Nat.le_of_ble_eq_true rfl, Nat.le_of_ble_eq_true rfl⟩) rfl hl.1 rfl (Nat.le_of_ble_eq_true rfl) ⟨Nat.zero_le _, Nat.zero_le _⟩ dX7_readItem_69 (fun b11 H locs w => ?_)
          refine z_callNr S K w hA (c_X10_within l D cs ad q7.1 q7.2.1 q7.2.2 (q7.1 5) (f_X7_least x2 x4 q7.1 q7.2.1 q7.2.2) (f_X7_most x2 x4 q7.1 q7.2.1 q7.2.2) (f_X10_within (q7.1 5) (f_X7_least x2 x4 q7.1 q7.2.1 q7.2.2) (f_X7_most x2 x4 q7.1 q7.2.1 q7.2.2)) rfl) (cw_X7_69 S.2.2.2.2 K.2 ⟨Nat.le_of_ble_eq_true rfl, Nat.le_of_ble_eq_true rfl⟩) rfl hl.1 rfl (Nat.le_of_ble_eq_true rfl) ⟨Nat.zero_le _, Nat.zero_le _⟩ dX7_readItem_72 (fun b12 H locs w => ?_)
          refine lv_if_ne (tgt := 80) S.1 S.2.1 dX7_readItem_75 (by decide) (fun c13 => ?_) (fun c13 => ?_)
          · have h := og_f c13 h
            refine lv_aload_n S.1 S.2.1 dX7_readItem_80 rfl (lv_at hl 0 rfl) ?_
            refine gX_1_2 S K w w89 dX7_readItem_81 ?_
            refine lv_iload S.1 S.2.1 dX7_readItem_84 (lv_at hl 4 rfl) ?_
            refine lv_aload_n S.1 S.2.1 dX7_readItem_86 rfl (lv_at hl 0 rfl) ?_
            refine gX_1_6 S K w w93 dX7_readItem_87 ?_
            obtain ⟨g14, h⟩ := og_g h
            refine sX_13 S K w g14 dX7_readItem_90 (fun H locs w => ?_)
            refine lv_iinc (v := (x4 + (1 : Int32))) (lv' := [(4, .int (x4 + (1 : Int32))), (0, .ref (ad 1)), (1, .ref (ad 11)), (2, .int x2), (3, .int x3)]) S.1 S.2.1 dX7_readItem_91 hl (k := 4) rfl rfl (by decide) rfl (fun ls hl => ?_)
            refine lv_goto (tgt := 36) S.1 S.2.1 dX7_readItem_94 (by decide) ?_
            exact ih36 _ _ _ _ _ _ h _ _ _ (lv_sub hl [1, 2, 3, 4, 0] rfl) w
          · have h := og_t c13 h
            refine lv_iconst (v := 0) S.1 S.2.1 dX7_readItem_78 (by decide) ?_
            exact z_retz S w hr hlk dX7_readItem_79 (by decide) (Option.some.inj h).symm
  refine lv_aload_n S.1 S.2.1 dX7_readItem_0 rfl (lv_at hl 0 rfl) ?_
  refine gX_1_4 S K w w91 dX7_readItem_1 ?_
  refine lv_iconst (v := 1) S.1 S.2.1 dX7_readItem_4 (by decide) ?_
  refine lv_icmp_ne (tgt := 20) S.1 S.2.1 dX7_readItem_5 (by decide) (fun c15 => ?_) (fun c15 => ?_)
  · have h := og_f c15 h
    refine lv_iconst (v := 0) S.1 S.2.1 dX7_readItem_20 (by decide) ?_
    exact z_retz S w hr hlk dX7_readItem_21 (by decide) (Option.some.inj h).symm
  · have h := og_t c15 h
    refine lv_aload_n S.1 S.2.1 dX7_readItem_8 rfl (lv_at hl 0 rfl) ?_
    refine lv_aload_n S.1 S.2.1 dX7_readItem_9 rfl (lv_at hl 0 rfl) ?_
    refine gX_1_6 S K w w93 dX7_readItem_10 ?_
    refine lv_aload_n S.1 S.2.1 dX7_readItem_13 rfl (lv_at hl 1 rfl) ?_
    refine z_callVr S K w hA (c_X7_mayBegin l D cs ad F A T (F 5) (f_X7_mayBegin (F 5) F A T) rfl) (cw_X7_53 S.2.2.2.2 ⟨Nat.le_of_ble_eq_true rfl, Nat.le_of_ble_eq_true rfl⟩) (z_recv K w 1 7 rfl rfl) rfl hl.1 rfl (Nat.le_of_ble_eq_true rfl) ⟨Nat.zero_le _, Nat.zero_le _⟩ dX7_readItem_14 (fun b16 H locs w => ?_)
    refine lv_if_ne (tgt := 22) S.1 S.2.1 dX7_readItem_17 (by decide) (fun c17 => ?_) (fun c17 => ?_)
    · have h := og_f c17 h
      refine lv_aload_n S.1 S.2.1 dX7_readItem_22 rfl (lv_at hl 0 rfl) ?_
      refine gX_1_6 S K w w93 dX7_readItem_23 ?_
      refine lv_istore_n (lv' := [(2, .int (F 5)), (0, .ref (ad 1)), (1, .ref (ad 11))]) S.1 S.2.1 dX7_readItem_26 rfl hl (by decide) rfl (fun ls hl => ?_)
      refine lv_iload_n S.1 S.2.1 dX7_readItem_27 rfl (lv_at hl 0 rfl) ?_
      refine lv_aload_n S.1 S.2.1 dX7_readItem_28 rfl (lv_at hl 2 rfl) ?_
      refine z_callSr S K w hA (c_X7_numbersDue l D cs ad F A T (F 5) (f_X7_numbersDue (F 5) F A T) rfl) (cw_X7_57 S.2.2.2.2 ⟨Nat.le_of_ble_eq_true rfl, Nat.le_of_ble_eq_true rfl⟩) rfl hl.1 rfl (Nat.le_of_ble_eq_true rfl) ⟨Nat.zero_le _, Nat.zero_le _⟩ dX7_readItem_29 (fun b18 H locs w => ?_)
      refine lv_istore_n (lv' := [(3, .int (f_X7_numbersDue (F 5) F A T)), (2, .int (F 5)), (0, .ref (ad 1)), (1, .ref (ad 11))]) S.1 S.2.1 dX7_readItem_32 rfl hl (by decide) rfl (fun ls hl => ?_)
      refine lv_iconst (v := 0) S.1 S.2.1 dX7_readItem_33 (by decide) ?_
      refine lv_istore (lv' := [(4, .int (0 : Int32)), (3, .int (f_X7_numbersDue (F 5) F A T)), (2, .int (F 5)), (0, .ref (ad 1)), (1, .ref (ad 11))]) S.1 S.2.1 dX7_readItem_34 hl (by decide) rfl (fun ls hl => ?_)
      exact j36 1000 _ _ _ _ _ _ h _ _ _ (lv_sub hl [3, 4, 2, 1, 0] rfl) w
    · have h := og_t c17 h
      refine lv_iconst (v := 0) S.1 S.2.1 dX7_readItem_20 (by decide) ?_
      exact z_retz S w hr hlk dX7_readItem_21 (by decide) (Option.some.inj h).symm
set_option maxHeartbeats 4000000 in
set_option maxRecDepth 100000 in
theorem c_X7_readInto (l : Launch) (D : va_G) (cs : Nat → ClassId) (ad : Nat → Nat) (F : ZF) (A : ZA) (T : Int64) (q : (Int32 × ZS)) (h : f_X7_readInto F A T = some q) : zMi l D cs (XWc cs ad 10 11) yX7_readInto cX7_readInto 3 (some .int) rm_X7_readInto ([.ref (ad 1), .ref (ad 11)] : List Value) F A T q True := by
  refine z_enteri (by decide) (Nat.le_of_ble_eq_true rfl) ?_
  intro p e s m below meth c A0 ls S K w hA hr hlk hl
  have S : CallFix p m c cX7_readInto 3 s ([.ref (ad 1), .ref (ad 11)] : List Value).toArray zWs RX7 := S
  have hl : lv_has ls 3 [(0, .ref (ad 1)), (1, .ref (ad 11))] := hl
  unfold f_X7_readInto at h
  have j21 : ∀ (n21 : Nat) (x2 : Int32) (F : ZF) (A : ZA) (T : Int64), f_X7_readInto_21 n21 x2 F A T = some q → ∀ (H : Heap) (locs : List Loc) (ls : Array Slot), lv_has ls 3 [(0, .ref (ad 1)), (1, .ref (ad 11)), (2, .int x2)] → ZW D A0 s.heap (XWc cs ad 10 11 F A T) H locs → W p l e rm_X7_readInto s m ([.ref (ad 1), .ref (ad 11)] : List Value).toArray below meth c H locs 0 0 (zQi (XWc cs ad 10 11) D A0 below ([.ref (ad 1), .ref (ad 11)] : List Value) s q True) (F0 m 21 ls []) := by
    intro n21
    induction n21 with
    | zero =>
      intro x2 F A T h H locs ls hl w
      have h : (none : Option (Int32 × ZS)) = some q := h
      cases h
    | succ n21 ih21 =>
      intro x2 F A T h H locs ls hl w
      rw [f_X7_readInto_21_s] at h
      refine lv_iload_n S.1 S.2.1 dX7_readInto_21 rfl (lv_at hl 2 rfl) ?_
      refine lv_sipush (v := 200) S.1 S.2.1 dX7_readInto_22 (by decide) ?_
      refine lv_icmp_gt (tgt := 63) S.1 S.2.1 dX7_readInto_25 (by decide) (fun c1 => ?_) (fun c1 => ?_)
      · have h := og_t c1 h
        refine lv_bipush (v := -10) S.1 S.2.1 dX7_readInto_63 (by decide) ?_
        refine lv_aload_n S.1 S.2.1 dX7_readInto_65 rfl (lv_at hl 0 rfl) ?_
        refine gX_1_1 S K w w88 dX7_readInto_66 ?_
        refine lv_isub S.1 S.2.1 dX7_readInto_69 ?_
        exact z_reti S w hr hlk dX7_readInto_70 trivial (Option.some.inj h).symm
      · have h := og_f c1 h
        refine lv_aload_n S.1 S.2.1 dX7_readInto_28 rfl (lv_at hl 0 rfl) ?_
        obtain ⟨q2, e3, h⟩ := og_b h
        refine z_callVv S K w hA (c_X7_nextToken l D cs ad F A T q2 e3) (cw_X7_34 S.2.2.2.2 ⟨Nat.le_of_ble_eq_true rfl, Nat.le_of_ble_eq_true rfl⟩) (z_recv K w 1 7 rfl rfl) rfl hl.1 rfl (Nat.le_of_ble_eq_true rfl) ⟨Nat.zero_le _, Nat.zero_le _⟩ dX7_readInto_29 (fun H locs w => ?_)
        refine lv_aload_n S.1 S.2.1 dX7_readInto_32 rfl (lv_at hl 0 rfl) ?_
        refine gX_1_4 S K w w91 dX7_readInto_33 ?_
        refine lv_if_ne (tgt := 41) S.1 S.2.1 dX7_readInto_36 (by decide) (fun c4 => ?_) (fun c4 => ?_)
        · have h := og_f c4 h
          refine lv_aload_n S.1 S.2.1 dX7_readInto_41 rfl (lv_at hl 0 rfl) ?_
          refine lv_aload_n S.1 S.2.1 dX7_readInto_42 rfl (lv_at hl 1 rfl) ?_
          obtain ⟨q6, e7, h⟩ := og_b h
          refine z_callVi S K w hA (c_X7_readItem l D cs ad q2.1 q2.2.1 q2.2.2 q6 e7) (cw_X7_40 S.2.2.2.2 ⟨Nat.le_of_ble_eq_true rfl, Nat.le_of_ble_eq_true rfl⟩) (z_recv K w 1 7 rfl rfl) rfl hl.1 rfl (Nat.le_of_ble_eq_true rfl) ⟨Nat.zero_le _, Nat.zero_le _⟩ dX7_readInto_43 (fun b5 H locs w => ?_)
          refine lv_if_ne (tgt := 57) S.1 S.2.1 dX7_readInto_46 (by decide) (fun c8 => ?_) (fun c8 => ?_)
          · have h := og_f c8 h
            refine lv_iinc (v := (x2 + (1 : Int32))) (lv' := [(2, .int (x2 + (1 : Int32))), (0, .ref (ad 1)), (1, .ref (ad 11))]) S.1 S.2.1 dX7_readInto_57 hl (k := 2) rfl rfl (by decide) rfl (fun ls hl => ?_)
            refine lv_goto (tgt := 21) S.1 S.2.1 dX7_readInto_60 (by decide) ?_
            exact ih21 _ _ _ _ h _ _ _ (lv_sub hl [1, 2, 0] rfl) w
          · have h := og_t c8 h
            refine lv_bipush (v := -10) S.1 S.2.1 dX7_readInto_49 (by decide) ?_
            refine lv_aload_n S.1 S.2.1 dX7_readInto_51 rfl (lv_at hl 0 rfl) ?_
            refine gX_1_5 S K w w92 dX7_readInto_52 ?_
            refine lv_isub S.1 S.2.1 dX7_readInto_55 ?_
            exact z_reti S w hr hlk dX7_readInto_56 trivial (Option.some.inj h).symm
        · have h := og_t c4 h
          refine lv_iload_n S.1 S.2.1 dX7_readInto_39 rfl (lv_at hl 2 rfl) ?_
          exact z_reti S w hr hlk dX7_readInto_40 trivial (Option.some.inj h).symm
  refine lv_aload_n S.1 S.2.1 dX7_readInto_0 rfl (lv_at hl 1 rfl) ?_
  obtain ⟨q9, e10, h⟩ := og_b h
  refine z_callVv S K w hA (c_X1_beginAnew_11 l D cs ad F A T q9 e10) (cw_X7_18 S.2.2.2.2 ⟨Nat.le_of_ble_eq_true rfl, Nat.le_of_ble_eq_true rfl⟩) (z_recv K w 11 1 rfl rfl) rfl hl.1 rfl (Nat.le_of_ble_eq_true rfl) ⟨Nat.zero_le _, Nat.zero_le _⟩ dX7_readInto_1 (fun H locs w => ?_)
  refine lv_aload_n S.1 S.2.1 dX7_readInto_4 rfl (lv_at hl 0 rfl) ?_
  refine lv_iconst (v := 0) S.1 S.2.1 dX7_readInto_5 (by decide) ?_
  refine pX_1_3 S K w w90 dX7_readInto_6 (fun H locs w => ?_)
  refine lv_aload_n S.1 S.2.1 dX7_readInto_9 rfl (lv_at hl 0 rfl) ?_
  refine lv_iconst (v := 0) S.1 S.2.1 dX7_readInto_10 (by decide) ?_
  refine pX_1_7 S K w rfl rfl w94 dX7_readInto_11 (fun H locs w => ?_)
  refine lv_aload_n S.1 S.2.1 dX7_readInto_14 rfl (lv_at hl 0 rfl) ?_
  refine lv_iconst (v := 0) S.1 S.2.1 dX7_readInto_15 (by decide) ?_
  refine pX_1_8 S K w rfl rfl w95 dX7_readInto_16 (fun H locs w => ?_)
  refine lv_iconst (v := 0) S.1 S.2.1 dX7_readInto_19 (by decide) ?_
  refine lv_istore_n (lv' := [(2, .int (0 : Int32)), (0, .ref (ad 1)), (1, .ref (ad 11))]) S.1 S.2.1 dX7_readInto_20 rfl hl (by decide) rfl (fun ls hl => ?_)
  exact j21 1000 _ _ _ _ h _ _ _ (lv_sub hl [1, 2, 0] rfl) w
set_option maxHeartbeats 4000000 in
set_option maxRecDepth 100000 in
theorem c_X6_beginAnew (l : Launch) (D : va_G) (cs : Nat → ClassId) (ad : Nat → Nat) (F : ZF) (A : ZA) (T : Int64) (a0 : Int32) (q : ZS) (h : f_X6_beginAnew a0 F A T = some q) : zMv l D cs (XWc cs ad 10 11) yX6_beginAnew cX6_beginAnew 2 none rm_X6_beginAnew ([.ref (ad 3), .int a0] : List Value) F A T q := by
  refine z_enterv (by decide) (Nat.le_of_ble_eq_true rfl) ?_
  intro p e s m below meth c A0 ls S K w hA hr hlk hl
  have S : CallFix p m c cX6_beginAnew 2 s ([.ref (ad 3), .int a0] : List Value).toArray zWs RX6 := S
  have hl : lv_has ls 2 [(0, .ref (ad 3)), (1, .int a0)] := hl
  unfold f_X6_beginAnew at h
  refine lv_aload_n S.1 S.2.1 dX6_beginAnew_0 rfl (lv_at hl 0 rfl) ?_
  refine lv_iconst (v := 0) S.1 S.2.1 dX6_beginAnew_1 (by decide) ?_
  refine pX_3_0 S K w w152 dX6_beginAnew_2 (fun H locs w => ?_)
  refine lv_aload_n S.1 S.2.1 dX6_beginAnew_5 rfl (lv_at hl 0 rfl) ?_
  refine lv_iconst (v := 0) S.1 S.2.1 dX6_beginAnew_6 (by decide) ?_
  refine pX_3_1 S K w w155 dX6_beginAnew_7 (fun H locs w => ?_)
  refine lv_aload_n S.1 S.2.1 dX6_beginAnew_10 rfl (lv_at hl 0 rfl) ?_
  refine lv_iload_n S.1 S.2.1 dX6_beginAnew_11 rfl (lv_at hl 1 rfl) ?_
  refine pX_3_2 S K w w157 dX6_beginAnew_12 (fun H locs w => ?_)
  refine lv_aload_n S.1 S.2.1 dX6_beginAnew_15 rfl (lv_at hl 0 rfl) ?_
  refine lv_iconst (v := 0) S.1 S.2.1 dX6_beginAnew_16 (by decide) ?_
  refine pX_3_3 S K w w159 dX6_beginAnew_17 (fun H locs w => ?_)
  exact z_retv S w hr hlk dX6_beginAnew_20 (Option.some.inj h).symm
set_option maxHeartbeats 4000000 in
set_option maxRecDepth 100000 in
theorem c_X10_court (l : Launch) (D : va_G) (cs : Nat → ClassId) (ad : Nat → Nat) (F : ZF) (A : ZA) (T : Int64) (q : (Int32 × ZS)) (h : f_X10_court F A T = some q) : zMc l D cs ad yX10_court cX10_court 4 (some .int) rm_X10_court ([.ref (ad 0)] : List Value) F A T q := by
  refine z_enterc (by decide) (Nat.le_of_ble_eq_true rfl) ?_
  intro p e s m below meth c A0 ls S K w hA hr hlk hl
  have S : CallFix p m c cX10_court 4 s ([.ref (ad 0)] : List Value).toArray zWs RX10 := S
  have hl : lv_has ls 4 [(0, .ref (ad 0))] := hl
  unfold f_X10_court at h
  have j65 : ∀ (n65 : Nat) (x1 x3 : Int32) (F : ZF) (A : ZA) (T : Int64), f_X10_court_65 n65 x1 x3 F A T = some q → ∀ (H : Heap) (locs : List Loc) (ls : Array Slot), lv_has ls 4 [(0, .ref ((zsw ad) 0)), (1, .int x1), (3, .int x3)] → ZW D A0 s.heap (XWc cs (zsw ad) 10 11 F A T) H locs → W p l e rm_X10_court s m ([.ref (ad 0)] : List Value).toArray below meth c H locs 0 0 (zQc cs ad D A0 below ([.ref (ad 0)] : List Value) s q) (F0 m 65 ls []) := by
    intro n65
    induction n65 with
    | zero =>
      intro x1 x3 F A T h H locs ls hl w
      have h : (none : Option (Int32 × ZS)) = some q := h
      cases h
    | succ n65 ih65 =>
      intro x1 x3 F A T h H locs ls hl w
      rw [f_X10_court_65_s] at h
      refine lv_iload_n S.1 S.2.1 dX10_court_65 rfl (lv_at hl 2 rfl) ?_
      refine lv_iconst (v := 2) S.1 S.2.1 dX10_court_66 (by decide) ?_
      refine lv_icmp_ge (tgt := 83) S.1 S.2.1 dX10_court_67 (by decide) (fun c1 => ?_) (fun c1 => ?_)
      · have h := og_t c1 h
        refine lv_iload_n S.1 S.2.1 dX10_court_83 rfl (lv_at hl 1 rfl) ?_
        exact z_retc S w rfl hr hlk dX10_court_84 (Option.some.inj h).symm
      · have h := og_f c1 h
        refine lv_aload_n S.1 S.2.1 dX10_court_70 rfl (lv_at hl 0 rfl) ?_
        refine gX_0_4 S K w w317 dX10_court_71 ?_
        refine lv_iload_n S.1 S.2.1 dX10_court_74 rfl (lv_at hl 2 rfl) ?_
        refine lv_iconst (v := 0) S.1 S.2.1 dX10_court_75 (by decide) ?_
        obtain ⟨g2, h⟩ := og_g h
        refine sX_5 S K w g2 dX10_court_76 (fun H locs w => ?_)
        refine lv_iinc (v := (x3 + (1 : Int32))) (lv' := [(3, .int (x3 + (1 : Int32))), (0, .ref ((zsw ad) 0)), (1, .int x1)]) S.1 S.2.1 dX10_court_77 hl (k := 2) rfl rfl (by decide) rfl (fun ls hl => ?_)
        refine lv_goto (tgt := 65) S.1 S.2.1 dX10_court_80 (by decide) ?_
        exact ih65 _ _ _ _ _ h _ _ _ (lv_sub hl [1, 2, 0] rfl) w
  refine lv_aload_n S.1 S.2.1 dX10_court_0 rfl (lv_at hl 0 rfl) ?_
  refine gX_0_0 S K w w311 dX10_court_1 ?_
  refine lv_aload_n S.1 S.2.1 dX10_court_4 rfl (lv_at hl 0 rfl) ?_
  refine gX_0_12 S K w w333 dX10_court_5 ?_
  obtain ⟨q4, e5, h⟩ := og_b h
  refine z_callVi S K w hA (c_X7_readInto l D cs ad F A T q4 e5) (cw_X10_100 S.2.2.2.2 ⟨Nat.le_of_ble_eq_true rfl, Nat.le_of_ble_eq_true rfl⟩) (z_recv K w 1 7 rfl rfl) rfl hl.1 rfl (Nat.le_of_ble_eq_true rfl) ⟨Nat.zero_le _, Nat.zero_le _⟩ dX10_court_8 (fun b3 H locs w => ?_)
  refine lv_istore_n (lv' := [(1, .int q4.1), (0, .ref (ad 0))]) S.1 S.2.1 dX10_court_11 rfl hl (by decide) rfl (fun ls hl => ?_)
  refine lv_iload_n S.1 S.2.1 dX10_court_12 rfl (lv_at hl 0 rfl) ?_
  refine lv_if_ge (tgt := 18) S.1 S.2.1 dX10_court_13 (by decide) (fun c6 => ?_) (fun c6 => ?_)
  · have h := og_t c6 h
    refine lv_aload_n S.1 S.2.1 dX10_court_18 rfl (lv_at hl 1 rfl) ?_
    refine gX_0_11 S K w w330 dX10_court_19 ?_
    refine lv_astore_n (lv' := [(2, .ref (ad 10)), (1, .int q4.1), (0, .ref (ad 0))]) S.1 S.2.1 dX10_court_22 rfl hl (by decide) rfl (fun ls hl => ?_)
    refine lv_aload_n S.1 S.2.1 dX10_court_23 rfl (lv_at hl 2 rfl) ?_
    refine lv_aload_n S.1 S.2.1 dX10_court_24 rfl (lv_at hl 2 rfl) ?_
    refine gX_0_12 S K w w333 dX10_court_25 ?_
    refine pX_0_11 S K w w330 dX10_court_28 (fun H locs w => ?_)
    refine lv_aload_n S.1 S.2.1 dX10_court_31 rfl (lv_at hl 2 rfl) ?_
    refine lv_aload_n S.1 S.2.1 dX10_court_32 rfl (lv_at hl 0 rfl) ?_
    refine pX_0_12 S K w w333 dX10_court_33 (fun H locs w => ?_)
    have w := zsw_w w
    have hl : lv_has ls 4 [(2, .ref ((zsw ad) 11)), (1, .int q4.1), (0, .ref ((zsw ad) 0))] := hl
    refine W.eq (g2 := F0 m 36 ls []) rfl ?_
    refine lv_aload_n S.1 S.2.1 dX10_court_36 rfl (lv_at hl 2 rfl) ?_
    refine gX_0_0 S K w w311 dX10_court_37 ?_
    refine lv_iconst (v := 0) S.1 S.2.1 dX10_court_40 (by decide) ?_
    refine pX_1_1 S K w w87 dX10_court_41 (fun H locs w => ?_)
    refine lv_aload_n S.1 S.2.1 dX10_court_44 rfl (lv_at hl 2 rfl) ?_
    refine gX_0_2 S K w w314 dX10_court_45 ?_
    refine lv_aload_n S.1 S.2.1 dX10_court_48 rfl (lv_at hl 2 rfl) ?_
    refine gX_0_11 S K w w330 dX10_court_49 ?_
    refine gX_10_5 S K w w245 dX10_court_52 ?_
    obtain ⟨q7, e8, h⟩ := og_b h
    refine z_callVv S K w hA (c_X6_beginAnew l D cs (zsw ad) (upd (zswF q4.2.1) 1 (0 : Int32)) (zswA q4.2.2.1) q4.2.2.2 ((upd (zswF q4.2.1) 1 (0 : Int32)) 27) q7 e8) (cw_X10_87 S.2.2.2.2 ⟨Nat.le_of_ble_eq_true rfl, Nat.le_of_ble_eq_true rfl⟩) (z_recv K w 3 6 rfl rfl) rfl hl.1 rfl (Nat.le_of_ble_eq_true rfl) ⟨Nat.zero_le _, Nat.zero_le _⟩ dX10_court_55 (fun H locs w => ?_)
    refine lv_aload_n S.1 S.2.1 dX10_court_58 rfl (lv_at hl 2 rfl) ?_
    refine lv_iconst (v := 0) S.1 S.2.1 dX10_court_59 (by decide) ?_
    refine pX_0_9 S K w w322 dX10_court_60 (fun H locs w => ?_)
    refine lv_iconst (v := 0) S.1 S.2.1 dX10_court_63 (by decide) ?_
    refine lv_istore_n (lv' := [(3, .int (0 : Int32)), (2, .ref ((zsw ad) 11)), (1, .int q4.1), (0, .ref ((zsw ad) 0))]) S.1 S.2.1 dX10_court_64 rfl hl (by decide) rfl (fun ls hl => ?_)
    exact j65 1000 _ _ _ _ _ h _ _ _ (lv_sub hl [3, 2, 0] rfl) w
  · have h := og_f c6 h
    refine lv_iload_n S.1 S.2.1 dX10_court_16 rfl (lv_at hl 0 rfl) ?_
    exact z_retc S w rfl hr hlk dX10_court_17 (Option.some.inj h).symm
