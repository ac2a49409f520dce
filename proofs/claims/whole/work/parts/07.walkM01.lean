set_option maxHeartbeats 4000000 in
set_option maxRecDepth 100000 in
theorem c_X11_isSo (l : Launch) (D : va_G) (cs : Nat → ClassId) (ad : Nat → Nat) (F : ZF) (A : ZA) (T : Int64) (a0 a1 a2 a3 : Int32) (q : Int32) (h : f_X11_isSo a0 a1 a2 a3 F A T = some q) : zMi l D cs (MW cs ad) yX11_isSo cX11_isSo 5 (some .boolean) rm_X11_isSo ([.ref (ad 0), .int a0, .int a1, .int a2, .int a3] : List Value) F A T ((q, F, A, T) : Int32 × ZS) (((q, F, A, T) : Int32 × ZS).1 &&& 1 = ((q, F, A, T) : Int32 × ZS).1) := by
  refine z_enteri (by decide) (Nat.le_of_ble_eq_true rfl) ?_
  intro p e s m below meth c A0 ls S K w hA hr hlk hl
  have S : CallFix p m c cX11_isSo 5 s ([.ref (ad 0), .int a0, .int a1, .int a2, .int a3] : List Value).toArray zWs RX11 := S
  have hl : lv_has ls 5 [(0, .ref (ad 0)), (1, .int a0), (2, .int a1), (3, .int a2), (4, .int a3)] := hl
  unfold f_X11_isSo at h
  refine lv_iload S.1 S.2.1 dX11_isSo_0 (lv_at hl 4 rfl) ?_
  refine lv_if_eq (tgt := 37) S.1 S.2.1 dX11_isSo_2 (by decide) (fun c1 => ?_) (fun c1 => ?_)
  · have h := og_t c1 h
    refine lv_aload_n S.1 S.2.1 dX11_isSo_37 rfl (lv_at hl 0 rfl) ?_
    refine gM_0_27 S K w w755 dX11_isSo_38 ?_
    refine lv_if_eq (tgt := 61) S.1 S.2.1 dX11_isSo_41 (by decide) (fun c2 => ?_) (fun c2 => ?_)
    · have h := og_t c2 h
      refine lv_iconst (v := 1) S.1 S.2.1 dX11_isSo_61 (by decide) ?_
      refine lv_goto (tgt := 66) S.1 S.2.1 dX11_isSo_62 (by decide) ?_
      exact z_retz S w hr hlk dX11_isSo_66 (by decide) (by rw [← Option.some.inj h])
    · have h := og_f c2 h
      refine lv_aload_n S.1 S.2.1 dX11_isSo_44 rfl (lv_at hl 0 rfl) ?_
      refine gM_0_26 S K w w754 dX11_isSo_45 ?_
      refine lv_iload_n S.1 S.2.1 dX11_isSo_48 rfl (lv_at hl 1 rfl) ?_
      obtain ⟨g3, h⟩ := og_g h
      refine aM_17 S K w g3 dX11_isSo_49 ?_
      refine lv_iload_n S.1 S.2.1 dX11_isSo_50 rfl (lv_at hl 3 rfl) ?_
      refine lv_imul S.1 S.2.1 dX11_isSo_51 ?_
      refine lv_iload_n S.1 S.2.1 dX11_isSo_52 rfl (lv_at hl 2 rfl) ?_
      refine lv_aload_n S.1 S.2.1 dX11_isSo_53 rfl (lv_at hl 0 rfl) ?_
      refine gM_0_27 S K w w755 dX11_isSo_54 ?_
      refine lv_imul S.1 S.2.1 dX11_isSo_57 ?_
      refine lv_icmp_gt (tgt := 65) S.1 S.2.1 dX11_isSo_58 (by decide) (fun c4 => ?_) (fun c4 => ?_)
      · have h := og_t c4 h
        refine lv_iconst (v := 0) S.1 S.2.1 dX11_isSo_65 (by decide) ?_
        exact z_retz S w hr hlk dX11_isSo_66 (by decide) (by rw [← Option.some.inj h])
      · have h := og_f c4 h
        refine lv_iconst (v := 1) S.1 S.2.1 dX11_isSo_61 (by decide) ?_
        refine lv_goto (tgt := 66) S.1 S.2.1 dX11_isSo_62 (by decide) ?_
        exact z_retz S w hr hlk dX11_isSo_66 (by decide) (by rw [← Option.some.inj h])
  · have h := og_f c1 h
    refine lv_aload_n S.1 S.2.1 dX11_isSo_5 rfl (lv_at hl 0 rfl) ?_
    refine gM_0_27 S K w w755 dX11_isSo_6 ?_
    refine lv_if_le (tgt := 33) S.1 S.2.1 dX11_isSo_9 (by decide) (fun c5 => ?_) (fun c5 => ?_)
    · have h := og_t c5 h
      refine lv_iconst (v := 0) S.1 S.2.1 dX11_isSo_33 (by decide) ?_
      refine lv_goto (tgt := 66) S.1 S.2.1 dX11_isSo_34 (by decide) ?_
      exact z_retz S w hr hlk dX11_isSo_66 (by decide) (by rw [← Option.some.inj h])
    · have h := og_f c5 h
      refine lv_aload_n S.1 S.2.1 dX11_isSo_12 rfl (lv_at hl 0 rfl) ?_
      refine gM_0_26 S K w w754 dX11_isSo_13 ?_
      refine lv_iload_n S.1 S.2.1 dX11_isSo_16 rfl (lv_at hl 1 rfl) ?_
      obtain ⟨g6, h⟩ := og_g h
      refine aM_17 S K w g6 dX11_isSo_17 ?_
      refine lv_iload_n S.1 S.2.1 dX11_isSo_18 rfl (lv_at hl 3 rfl) ?_
      refine lv_imul S.1 S.2.1 dX11_isSo_19 ?_
      refine lv_iload_n S.1 S.2.1 dX11_isSo_20 rfl (lv_at hl 2 rfl) ?_
      refine lv_aload_n S.1 S.2.1 dX11_isSo_21 rfl (lv_at hl 0 rfl) ?_
      refine gM_0_27 S K w w755 dX11_isSo_22 ?_
      refine lv_imul S.1 S.2.1 dX11_isSo_25 ?_
      refine lv_icmp_lt (tgt := 33) S.1 S.2.1 dX11_isSo_26 (by decide) (fun c7 => ?_) (fun c7 => ?_)
      · have h := og_t c7 h
        refine lv_iconst (v := 0) S.1 S.2.1 dX11_isSo_33 (by decide) ?_
        refine lv_goto (tgt := 66) S.1 S.2.1 dX11_isSo_34 (by decide) ?_
        exact z_retz S w hr hlk dX11_isSo_66 (by decide) (by rw [← Option.some.inj h])
      · have h := og_f c7 h
        refine lv_iconst (v := 1) S.1 S.2.1 dX11_isSo_29 (by decide) ?_
        refine lv_goto (tgt := 66) S.1 S.2.1 dX11_isSo_30 (by decide) ?_
        exact z_retz S w hr hlk dX11_isSo_66 (by decide) (by rw [← Option.some.inj h])
set_option maxHeartbeats 4000000 in
set_option maxRecDepth 100000 in
theorem c_X11_cheapest (l : Launch) (D : va_G) (cs : Nat → ClassId) (ad : Nat → Nat) (F : ZF) (A : ZA) (T : Int64) (a0 a1 a2 a3 : Int32) (q : (Int32 × ZS)) (h : f_X11_cheapest a0 a1 a2 a3 F A T = some q) : zMi l D cs (MW cs ad) yX11_cheapest cX11_cheapest 7 (some .int) rm_X11_cheapest ([.ref (ad 0), .int a0, .int a1, .int a2, .int a3] : List Value) F A T q True := by
  refine z_enteri (by decide) (Nat.le_of_ble_eq_true rfl) ?_
  intro p e s m below meth c A0 ls S K w hA hr hlk hl
  have S : CallFix p m c cX11_cheapest 7 s ([.ref (ad 0), .int a0, .int a1, .int a2, .int a3] : List Value).toArray zWs RX11 := S
  have hl : lv_has ls 7 [(0, .ref (ad 0)), (1, .int a0), (2, .int a1), (3, .int a2), (4, .int a3)] := hl
  unfold f_X11_cheapest at h
  have j7 : ∀ (n7 : Nat) (x1 x2 x3 x4 x5 x6 : Int32) (F : ZF) (A : ZA) (T : Int64), f_X11_cheapest_7 n7 x1 x2 x3 x4 x5 x6 F A T = some q → ∀ (H : Heap) (locs : List Loc) (ls : Array Slot), lv_has ls 7 [(0, .ref (ad 0)), (1, .int x1), (2, .int x2), (3, .int x3), (4, .int x4), (5, .int x5), (6, .int x6)] → ZW D A0 s.heap (MW cs ad F A T) H locs → W p l e rm_X11_cheapest s m ([.ref (ad 0), .int a0, .int a1, .int a2, .int a3] : List Value).toArray below meth c H locs 0 0 (zQi (MW cs ad) D A0 below ([.ref (ad 0), .int a0, .int a1, .int a2, .int a3] : List Value) s q True) (F0 m 7 ls []) := by
    intro n7
    induction n7 with
    | zero =>
      intro x1 x2 x3 x4 x5 x6 F A T h H locs ls hl w
      have h : (none : Option (Int32 × ZS)) = some q := h
      cases h
    | succ n7 ih7 =>
      intro x1 x2 x3 x4 x5 x6 F A T h H locs ls hl w
      rw [f_X11_cheapest_7_s] at h
      have j54 : ∀ (x1 x2 x3 x4 x5 x6 : Int32) (F : ZF) (A : ZA) (T : Int64), f_X11_cheapest_54 (f_X11_cheapest_7 n7) x1 x2 x3 x4 x5 x6 F A T = some q → ∀ (H : Heap) (locs : List Loc) (ls : Array Slot), lv_has ls 7 [(0, .ref (ad 0)), (1, .int x1), (2, .int x2), (3, .int x3), (4, .int x4), (5, .int x5), (6, .int x6)] → ZW D A0 s.heap (MW cs ad F A T) H locs → W p l e rm_X11_cheapest s m ([.ref (ad 0), .int a0, .int a1, .int a2, .int a3] : List Value).toArray below meth c H locs 0 0 (zQi (MW cs ad) D A0 below ([.ref (ad 0), .int a0, .int a1, .int a2, .int a3] : List Value) s q True) (F0 m 54 ls []) := by
        intro x1 x2 x3 x4 x5 x6 F A T h H locs ls hl w
        unfold f_X11_cheapest_54 at h
        refine lv_aload_n S.1 S.2.1 dX11_cheapest_54 rfl (lv_at hl 0 rfl) ?_
        refine lv_iload S.1 S.2.1 dX11_cheapest_55 (lv_at hl 6 rfl) ?_
        refine lv_aload_n S.1 S.2.1 dX11_cheapest_57 rfl (lv_at hl 0 rfl) ?_
        refine gM_0_24 S K w w752 dX11_cheapest_58 ?_
        refine lv_iconst (v := 0) S.1 S.2.1 dX11_cheapest_61 (by decide) ?_
        refine aM_15 S K w gk_0_102 dX11_cheapest_62 ?_
        refine lv_ior S.1 S.2.1 dX11_cheapest_63 ?_
        obtain ⟨q11, e12, h⟩ := og_b h
        refine z_callVv S K w hA (c_X11_hold l D cs ad F A T (x6 ||| (A 15 ((0 : Int32)).toNatClampNeg)) q11 e12) (cw_X11_147 S.2.2.2.2 ⟨Nat.le_of_ble_eq_true rfl, Nat.le_of_ble_eq_true rfl⟩) (z_recv K w 0 11 rfl rfl) rfl hl.1 rfl (Nat.le_of_ble_eq_true rfl) ⟨Nat.zero_le _, Nat.zero_le _⟩ dX11_cheapest_64 (fun H locs w => ?_)
        refine lv_aload_n S.1 S.2.1 dX11_cheapest_67 rfl (lv_at hl 0 rfl) ?_
        refine lv_iload_n S.1 S.2.1 dX11_cheapest_68 rfl (lv_at hl 1 rfl) ?_
        refine lv_iload_n S.1 S.2.1 dX11_cheapest_69 rfl (lv_at hl 2 rfl) ?_
        refine lv_iload_n S.1 S.2.1 dX11_cheapest_70 rfl (lv_at hl 3 rfl) ?_
        refine lv_iload S.1 S.2.1 dX11_cheapest_71 (lv_at hl 4 rfl) ?_
        obtain ⟨q14, e15, h⟩ := og_b h
        refine z_callVr S K w hA (c_X11_isSo l D cs ad q11.1 q11.2.1 q11.2.2 x1 x2 x3 x4 q14 e15) (cw_X11_178 S.2.2.2.2 ⟨Nat.le_of_ble_eq_true rfl, Nat.le_of_ble_eq_true rfl⟩) (z_recv K w 0 11 rfl rfl) rfl hl.1 rfl (Nat.le_of_ble_eq_true rfl) ⟨Nat.zero_le _, Nat.zero_le _⟩ dX11_cheapest_73 (fun b13 H locs w => ?_)
        refine lv_if_eq (tgt := 84) S.1 S.2.1 dX11_cheapest_76 (by decide) (fun c16 => ?_) (fun c16 => ?_)
        · have h := og_t c16 h
          refine lv_iload S.1 S.2.1 dX11_cheapest_84 (lv_at hl 5 rfl) ?_
          refine lv_istore (lv' := [(5, .int x5), (0, .ref (ad 0)), (1, .int x1), (2, .int x2), (3, .int x3), (4, .int x4), (6, .int x6)]) S.1 S.2.1 dX11_cheapest_86 hl (by decide) rfl (fun ls hl => ?_)
          refine lv_iinc (v := (x6 + (1 : Int32))) (lv' := [(6, .int (x6 + (1 : Int32))), (5, .int x5), (0, .ref (ad 0)), (1, .int x1), (2, .int x2), (3, .int x3), (4, .int x4)]) S.1 S.2.1 dX11_cheapest_88 hl (k := 6) rfl rfl (by decide) rfl (fun ls hl => ?_)
          refine lv_goto (tgt := 7) S.1 S.2.1 dX11_cheapest_91 (by decide) ?_
          exact ih7 _ _ _ _ _ _ _ _ _ h _ _ _ (lv_sub hl [2, 3, 4, 5, 6, 1, 0] rfl) w
        · have h := og_f c16 h
          refine lv_iload S.1 S.2.1 dX11_cheapest_79 (lv_at hl 6 rfl) ?_
          refine lv_goto (tgt := 86) S.1 S.2.1 dX11_cheapest_81 (by decide) ?_
          refine lv_istore (lv' := [(5, .int x6), (0, .ref (ad 0)), (1, .int x1), (2, .int x2), (3, .int x3), (4, .int x4), (6, .int x6)]) S.1 S.2.1 dX11_cheapest_86 hl (by decide) rfl (fun ls hl => ?_)
          refine lv_iinc (v := (x6 + (1 : Int32))) (lv' := [(6, .int (x6 + (1 : Int32))), (5, .int x6), (0, .ref (ad 0)), (1, .int x1), (2, .int x2), (3, .int x3), (4, .int x4)]) S.1 S.2.1 dX11_cheapest_88 hl (k := 6) rfl rfl (by decide) rfl (fun ls hl => ?_)
          refine lv_goto (tgt := 7) S.1 S.2.1 dX11_cheapest_91 (by decide) ?_
          exact ih7 _ _ _ _ _ _ _ _ _ h _ _ _ (lv_sub hl [2, 3, 4, 5, 6, 1, 0] rfl) w
      refine lv_iload S.1 S.2.1 dX11_cheapest_7 (lv_at hl 6 rfl) ?_
      refine lv_iconst (v := 1) S.1 S.2.1 dX11_cheapest_9 (by decide) ?_
      refine lv_aload_n S.1 S.2.1 dX11_cheapest_10 rfl (lv_at hl 0 rfl) ?_
      refine gM_0_5 S K w w733 dX11_cheapest_11 ?_
      refine lv_iconst (v := 0) S.1 S.2.1 dX11_cheapest_14 (by decide) ?_
      refine aM_4 S K w gk_0_2 dX11_cheapest_15 ?_
      refine lv_ishl S.1 S.2.1 dX11_cheapest_16 ?_
      refine lv_icmp_ge (tgt := 94) S.1 S.2.1 dX11_cheapest_17 (by decide) (fun c1 => ?_) (fun c1 => ?_)
      · have h := og_t c1 h
        refine lv_iload S.1 S.2.1 dX11_cheapest_94 (lv_at hl 5 rfl) ?_
        exact z_reti S w hr hlk dX11_cheapest_96 trivial (Option.some.inj h).symm
      · have h := og_f c1 h
        refine lv_iload S.1 S.2.1 dX11_cheapest_20 (lv_at hl 6 rfl) ?_
        refine lv_aload_n S.1 S.2.1 dX11_cheapest_22 rfl (lv_at hl 0 rfl) ?_
        refine gM_0_24 S K w w752 dX11_cheapest_23 ?_
        refine lv_iconst (v := 0) S.1 S.2.1 dX11_cheapest_26 (by decide) ?_
        refine aM_15 S K w gk_0_102 dX11_cheapest_27 ?_
        refine lv_iand S.1 S.2.1 dX11_cheapest_28 ?_
        refine lv_if_ne (tgt := 88) S.1 S.2.1 dX11_cheapest_29 (by decide) (fun c2 => ?_) (fun c2 => ?_)
        · have h := og_f c2 h
          refine lv_iinc (v := (x6 + (1 : Int32))) (lv' := [(6, .int (x6 + (1 : Int32))), (0, .ref (ad 0)), (1, .int x1), (2, .int x2), (3, .int x3), (4, .int x4), (5, .int x5)]) S.1 S.2.1 dX11_cheapest_88 hl (k := 6) rfl rfl (by decide) rfl (fun ls hl => ?_)
          refine lv_goto (tgt := 7) S.1 S.2.1 dX11_cheapest_91 (by decide) ?_
          exact ih7 _ _ _ _ _ _ _ _ _ h _ _ _ (lv_sub hl [1, 2, 3, 4, 5, 6, 0] rfl) w
        · have h := og_t c2 h
          refine lv_iload S.1 S.2.1 dX11_cheapest_32 (lv_at hl 5 rfl) ?_
          refine lv_bipush (v := -9) S.1 S.2.1 dX11_cheapest_34 (by decide) ?_
          refine lv_icmp_eq (tgt := 54) S.1 S.2.1 dX11_cheapest_36 (by decide) (fun c3 => ?_) (fun c3 => ?_)
          · have h := og_t c3 h
            exact j54 _ _ _ _ _ _ _ _ _ h _ _ _ (lv_sub hl [0, 1, 2, 3, 4, 5, 6] rfl) w
          · have h := og_f c3 h
            refine lv_aload_n S.1 S.2.1 dX11_cheapest_39 rfl (lv_at hl 0 rfl) ?_
            refine lv_iload S.1 S.2.1 dX11_cheapest_40 (lv_at hl 6 rfl) ?_
            obtain ⟨q5, e6, h⟩ := og_b h
            refine z_callVr S K w hA (c_X11_costOf l D cs ad F A T x6 q5 e6) (cw_X11_175 S.2.2.2.2 ⟨Nat.le_of_ble_eq_true rfl, Nat.le_of_ble_eq_true rfl⟩) (z_recv K w 0 11 rfl rfl) rfl hl.1 rfl (Nat.le_of_ble_eq_true rfl) ⟨Nat.zero_le _, Nat.zero_le _⟩ dX11_cheapest_42 (fun b4 H locs w => ?_)
            refine lv_aload_n S.1 S.2.1 dX11_cheapest_45 rfl (lv_at hl 0 rfl) ?_
            refine lv_iload S.1 S.2.1 dX11_cheapest_46 (lv_at hl 5 rfl) ?_
            obtain ⟨q8, e9, h⟩ := og_b h
            refine z_callVr S K w hA (c_X11_costOf l D cs ad F A T x5 q8 e9) (cw_X11_175 S.2.2.2.2 ⟨Nat.le_of_ble_eq_true rfl, Nat.le_of_ble_eq_true rfl⟩) (z_recv K w 0 11 rfl rfl) rfl hl.1 rfl (Nat.le_of_ble_eq_true rfl) ⟨Nat.zero_le _, Nat.zero_le _⟩ dX11_cheapest_48 (fun b7 H locs w => ?_)
            refine lv_icmp_ge (tgt := 88) S.1 S.2.1 dX11_cheapest_51 (by decide) (fun c10 => ?_) (fun c10 => ?_)
            · have h := og_t c10 h
              refine lv_iinc (v := (x6 + (1 : Int32))) (lv' := [(6, .int (x6 + (1 : Int32))), (0, .ref (ad 0)), (1, .int x1), (2, .int x2), (3, .int x3), (4, .int x4), (5, .int x5)]) S.1 S.2.1 dX11_cheapest_88 hl (k := 6) rfl rfl (by decide) rfl (fun ls hl => ?_)
              refine lv_goto (tgt := 7) S.1 S.2.1 dX11_cheapest_91 (by decide) ?_
              exact ih7 _ _ _ _ _ _ _ _ _ h _ _ _ (lv_sub hl [1, 2, 3, 4, 5, 6, 0] rfl) w
            · have h := og_f c10 h
              exact j54 _ _ _ _ _ _ _ _ _ h _ _ _ (lv_sub hl [0, 1, 2, 3, 4, 5, 6] rfl) w
  refine lv_bipush (v := -9) S.1 S.2.1 dX11_cheapest_0 (by decide) ?_
  refine lv_istore (lv' := [(5, .int (-9 : Int32)), (0, .ref (ad 0)), (1, .int a0), (2, .int a1), (3, .int a2), (4, .int a3)]) S.1 S.2.1 dX11_cheapest_2 hl (by decide) rfl (fun ls hl => ?_)
  refine lv_iconst (v := 0) S.1 S.2.1 dX11_cheapest_4 (by decide) ?_
  refine lv_istore (lv' := [(6, .int (0 : Int32)), (5, .int (-9 : Int32)), (0, .ref (ad 0)), (1, .int a0), (2, .int a1), (3, .int a2), (4, .int a3)]) S.1 S.2.1 dX11_cheapest_5 hl (by decide) rfl (fun ls hl => ?_)
  exact j7 1000 _ _ _ _ _ _ _ _ _ h _ _ _ (lv_sub hl [2, 3, 4, 5, 6, 1, 0] rfl) w
set_option maxHeartbeats 4000000 in
set_option maxRecDepth 100000 in
theorem c_X11_proof (l : Launch) (D : va_G) (cs : Nat → ClassId) (ad : Nat → Nat) (F : ZF) (A : ZA) (T : Int64) (a0 a1 a2 a3 : Int32) (q : (Int32 × ZS)) (h : f_X11_proof a0 a1 a2 a3 F A T = some q) : zMi l D cs (MW cs ad) yX11_proof cX11_proof 6 (some .int) rm_X11_proof ([.ref (ad 0), .int a0, .int a1, .int a2, .int a3] : List Value) F A T q True := by
  refine z_enteri (by decide) (Nat.le_of_ble_eq_true rfl) ?_
  intro p e s m below meth c A0 ls S K w hA hr hlk hl
  have S : CallFix p m c cX11_proof 6 s ([.ref (ad 0), .int a0, .int a1, .int a2, .int a3] : List Value).toArray zWs RX11 := S
  have hl : lv_has ls 6 [(0, .ref (ad 0)), (1, .int a0), (2, .int a1), (3, .int a2), (4, .int a3)] := hl
  unfold f_X11_proof at h
  refine lv_aload_n S.1 S.2.1 dX11_proof_0 rfl (lv_at hl 0 rfl) ?_
  refine lv_iload_n S.1 S.2.1 dX11_proof_1 rfl (lv_at hl 1 rfl) ?_
  refine lv_iload_n S.1 S.2.1 dX11_proof_2 rfl (lv_at hl 2 rfl) ?_
  refine lv_iload_n S.1 S.2.1 dX11_proof_3 rfl (lv_at hl 3 rfl) ?_
  refine z_callVr S K w hA (c_X11_isShare l D cs ad F A T a0 a1 a2 (f_X11_isShare a0 a1 a2 F A T) rfl) (cw_X11_182 S.2.2.2.2 ⟨Nat.le_of_ble_eq_true rfl, Nat.le_of_ble_eq_true rfl⟩) (z_recv K w 0 11 rfl rfl) rfl hl.1 rfl (Nat.le_of_ble_eq_true rfl) ⟨Nat.zero_le _, Nat.zero_le _⟩ dX11_proof_4 (fun b1 H locs w => ?_)
  refine lv_if_eq (tgt := 20) S.1 S.2.1 dX11_proof_7 (by decide) (fun c2 => ?_) (fun c2 => ?_)
  · have h := og_t c2 h
    refine lv_iconst (v := -1) S.1 S.2.1 dX11_proof_20 (by decide) ?_
    exact z_reti S w hr hlk dX11_proof_21 trivial (Option.some.inj h).symm
  · have h := og_f c2 h
    refine lv_iload S.1 S.2.1 dX11_proof_10 (lv_at hl 4 rfl) ?_
    refine lv_iconst (v := 0) S.1 S.2.1 dX11_proof_12 (by decide) ?_
    refine lv_iconst (v := 1) S.1 S.2.1 dX11_proof_13 (by decide) ?_
    refine z_callSr S K w hA (c_X11_in l D cs ad F A T a3 (0 : Int32) (1 : Int32) (f_X11_in a3 (0 : Int32) (1 : Int32)) rfl) (cw_X11_72 S.2.2.2.2 ⟨Nat.le_of_ble_eq_true rfl, Nat.le_of_ble_eq_true rfl⟩) rfl hl.1 rfl (Nat.le_of_ble_eq_true rfl) ⟨Nat.zero_le _, Nat.zero_le _⟩ dX11_proof_14 (fun b3 H locs w => ?_)
    refine lv_if_ne (tgt := 22) S.1 S.2.1 dX11_proof_17 (by decide) (fun c4 => ?_) (fun c4 => ?_)
    · have h := og_f c4 h
      refine lv_aload_n S.1 S.2.1 dX11_proof_22 rfl (lv_at hl 0 rfl) ?_
      refine lv_iload_n S.1 S.2.1 dX11_proof_23 rfl (lv_at hl 1 rfl) ?_
      refine lv_iload_n S.1 S.2.1 dX11_proof_24 rfl (lv_at hl 2 rfl) ?_
      refine lv_iload_n S.1 S.2.1 dX11_proof_25 rfl (lv_at hl 3 rfl) ?_
      refine lv_iconst (v := 1) S.1 S.2.1 dX11_proof_26 (by decide) ?_
      obtain ⟨q6, e7, h⟩ := og_b h
      refine z_callVi S K w hA (c_X11_cheapest l D cs ad F A T a0 a1 a2 (1 : Int32) q6 e7) (cw_X11_185 S.2.2.2.2 ⟨Nat.le_of_ble_eq_true rfl, Nat.le_of_ble_eq_true rfl⟩) (z_recv K w 0 11 rfl rfl) rfl hl.1 rfl (Nat.le_of_ble_eq_true rfl) ⟨Nat.zero_le _, Nat.zero_le _⟩ dX11_proof_27 (fun b5 H locs w => ?_)
      refine lv_istore (lv' := [(5, .int q6.1), (0, .ref (ad 0)), (1, .int a0), (2, .int a1), (3, .int a2), (4, .int a3)]) S.1 S.2.1 dX11_proof_30 hl (by decide) rfl (fun ls hl => ?_)
      refine lv_iload S.1 S.2.1 dX11_proof_32 (lv_at hl 0 rfl) ?_
      refine lv_bipush (v := -9) S.1 S.2.1 dX11_proof_34 (by decide) ?_
      refine lv_icmp_eq (tgt := 45) S.1 S.2.1 dX11_proof_36 (by decide) (fun c8 => ?_) (fun c8 => ?_)
      · have h := og_t c8 h
        refine lv_iload S.1 S.2.1 dX11_proof_45 (lv_at hl 0 rfl) ?_
        refine lv_goto (tgt := 56) S.1 S.2.1 dX11_proof_47 (by decide) ?_
        exact z_reti S w hr hlk dX11_proof_56 trivial (Option.some.inj h).symm
      · have h := og_f c8 h
        refine lv_iload S.1 S.2.1 dX11_proof_39 (lv_at hl 5 rfl) ?_
        refine lv_iconst (v := 1) S.1 S.2.1 dX11_proof_41 (by decide) ?_
        refine lv_icmp_ne (tgt := 50) S.1 S.2.1 dX11_proof_42 (by decide) (fun c9 => ?_) (fun c9 => ?_)
        · have h := og_f c9 h
          refine lv_aload_n S.1 S.2.1 dX11_proof_50 rfl (lv_at hl 1 rfl) ?_
          refine lv_iload S.1 S.2.1 dX11_proof_51 (lv_at hl 0 rfl) ?_
          obtain ⟨q11, e12, h⟩ := og_b h
          refine z_callVr S K w hA (c_X11_costOf l D cs ad q6.2.1 q6.2.2.1 q6.2.2.2 q6.1 q11 e12) (cw_X11_175 S.2.2.2.2 ⟨Nat.le_of_ble_eq_true rfl, Nat.le_of_ble_eq_true rfl⟩) (z_recv K w 0 11 rfl rfl) rfl hl.1 rfl (Nat.le_of_ble_eq_true rfl) ⟨Nat.zero_le _, Nat.zero_le _⟩ dX11_proof_53 (fun b10 H locs w => ?_)
          exact z_reti S w hr hlk dX11_proof_56 trivial (Option.some.inj h).symm
        · have h := og_t c9 h
          refine lv_iload S.1 S.2.1 dX11_proof_45 (lv_at hl 0 rfl) ?_
          refine lv_goto (tgt := 56) S.1 S.2.1 dX11_proof_47 (by decide) ?_
          exact z_reti S w hr hlk dX11_proof_56 trivial (Option.some.inj h).symm
    · have h := og_t c4 h
      refine lv_iconst (v := -1) S.1 S.2.1 dX11_proof_20 (by decide) ?_
      exact z_reti S w hr hlk dX11_proof_21 trivial (Option.some.inj h).symm
set_option maxHeartbeats 4000000 in
set_option maxRecDepth 100000 in
theorem c_X11_cleared (l : Launch) (D : va_G) (cs : Nat → ClassId) (ad : Nat → Nat) (F : ZF) (A : ZA) (T : Int64) (a0 a1 a2 a3 : Int32) (q : (Int32 × ZS)) (h : f_X11_cleared a0 a1 a2 a3 F A T = some q) : zMi l D cs (MW cs ad) yX11_cleared cX11_cleared 6 (some .int) rm_X11_cleared ([.ref (ad 0), .int a0, .int a1, .int a2, .int a3] : List Value) F A T q True := by
  refine z_enteri (by decide) (Nat.le_of_ble_eq_true rfl) ?_
  intro p e s m below meth c A0 ls S K w hA hr hlk hl
  have S : CallFix p m c cX11_cleared 6 s ([.ref (ad 0), .int a0, .int a1, .int a2, .int a3] : List Value).toArray zWs RX11 := S
  have hl : lv_has ls 6 [(0, .ref (ad 0)), (1, .int a0), (2, .int a1), (3, .int a2), (4, .int a3)] := hl
  unfold f_X11_cleared at h
  refine lv_aload_n S.1 S.2.1 dX11_cleared_0 rfl (lv_at hl 0 rfl) ?_
  refine lv_iload_n S.1 S.2.1 dX11_cleared_1 rfl (lv_at hl 1 rfl) ?_
  refine lv_iload_n S.1 S.2.1 dX11_cleared_2 rfl (lv_at hl 2 rfl) ?_
  refine lv_iload_n S.1 S.2.1 dX11_cleared_3 rfl (lv_at hl 3 rfl) ?_
  refine z_callVr S K w hA (c_X11_isShare l D cs ad F A T a0 a1 a2 (f_X11_isShare a0 a1 a2 F A T) rfl) (cw_X11_182 S.2.2.2.2 ⟨Nat.le_of_ble_eq_true rfl, Nat.le_of_ble_eq_true rfl⟩) (z_recv K w 0 11 rfl rfl) rfl hl.1 rfl (Nat.le_of_ble_eq_true rfl) ⟨Nat.zero_le _, Nat.zero_le _⟩ dX11_cleared_4 (fun b1 H locs w => ?_)
  refine lv_if_eq (tgt := 20) S.1 S.2.1 dX11_cleared_7 (by decide) (fun c2 => ?_) (fun c2 => ?_)
  · have h := og_t c2 h
    refine lv_iconst (v := -1) S.1 S.2.1 dX11_cleared_20 (by decide) ?_
    exact z_reti S w hr hlk dX11_cleared_21 trivial (Option.some.inj h).symm
  · have h := og_f c2 h
    refine lv_iload S.1 S.2.1 dX11_cleared_10 (lv_at hl 4 rfl) ?_
    refine lv_iconst (v := 0) S.1 S.2.1 dX11_cleared_12 (by decide) ?_
    refine lv_iconst (v := 1) S.1 S.2.1 dX11_cleared_13 (by decide) ?_
    refine z_callSr S K w hA (c_X11_in l D cs ad F A T a3 (0 : Int32) (1 : Int32) (f_X11_in a3 (0 : Int32) (1 : Int32)) rfl) (cw_X11_72 S.2.2.2.2 ⟨Nat.le_of_ble_eq_true rfl, Nat.le_of_ble_eq_true rfl⟩) rfl hl.1 rfl (Nat.le_of_ble_eq_true rfl) ⟨Nat.zero_le _, Nat.zero_le _⟩ dX11_cleared_14 (fun b3 H locs w => ?_)
    refine lv_if_ne (tgt := 22) S.1 S.2.1 dX11_cleared_17 (by decide) (fun c4 => ?_) (fun c4 => ?_)
    · have h := og_f c4 h
      refine lv_aload_n S.1 S.2.1 dX11_cleared_22 rfl (lv_at hl 0 rfl) ?_
      refine lv_iload_n S.1 S.2.1 dX11_cleared_23 rfl (lv_at hl 1 rfl) ?_
      refine lv_iload_n S.1 S.2.1 dX11_cleared_24 rfl (lv_at hl 2 rfl) ?_
      refine lv_iload_n S.1 S.2.1 dX11_cleared_25 rfl (lv_at hl 3 rfl) ?_
      refine lv_iconst (v := 0) S.1 S.2.1 dX11_cleared_26 (by decide) ?_
      obtain ⟨q6, e7, h⟩ := og_b h
      refine z_callVi S K w hA (c_X11_cheapest l D cs ad F A T a0 a1 a2 (0 : Int32) q6 e7) (cw_X11_185 S.2.2.2.2 ⟨Nat.le_of_ble_eq_true rfl, Nat.le_of_ble_eq_true rfl⟩) (z_recv K w 0 11 rfl rfl) rfl hl.1 rfl (Nat.le_of_ble_eq_true rfl) ⟨Nat.zero_le _, Nat.zero_le _⟩ dX11_cleared_27 (fun b5 H locs w => ?_)
      refine lv_istore (lv' := [(5, .int q6.1), (0, .ref (ad 0)), (1, .int a0), (2, .int a1), (3, .int a2), (4, .int a3)]) S.1 S.2.1 dX11_cleared_30 hl (by decide) rfl (fun ls hl => ?_)
      refine lv_iload S.1 S.2.1 dX11_cleared_32 (lv_at hl 0 rfl) ?_
      refine lv_bipush (v := -9) S.1 S.2.1 dX11_cleared_34 (by decide) ?_
      refine lv_icmp_eq (tgt := 45) S.1 S.2.1 dX11_cleared_36 (by decide) (fun c8 => ?_) (fun c8 => ?_)
      · have h := og_t c8 h
        refine lv_iload S.1 S.2.1 dX11_cleared_45 (lv_at hl 0 rfl) ?_
        refine lv_goto (tgt := 56) S.1 S.2.1 dX11_cleared_47 (by decide) ?_
        exact z_reti S w hr hlk dX11_cleared_56 trivial (Option.some.inj h).symm
      · have h := og_f c8 h
        refine lv_iload S.1 S.2.1 dX11_cleared_39 (lv_at hl 5 rfl) ?_
        refine lv_iconst (v := 1) S.1 S.2.1 dX11_cleared_41 (by decide) ?_
        refine lv_icmp_ne (tgt := 50) S.1 S.2.1 dX11_cleared_42 (by decide) (fun c9 => ?_) (fun c9 => ?_)
        · have h := og_f c9 h
          refine lv_aload_n S.1 S.2.1 dX11_cleared_50 rfl (lv_at hl 1 rfl) ?_
          refine lv_iload S.1 S.2.1 dX11_cleared_51 (lv_at hl 0 rfl) ?_
          obtain ⟨q11, e12, h⟩ := og_b h
          refine z_callVr S K w hA (c_X11_costOf l D cs ad q6.2.1 q6.2.2.1 q6.2.2.2 q6.1 q11 e12) (cw_X11_175 S.2.2.2.2 ⟨Nat.le_of_ble_eq_true rfl, Nat.le_of_ble_eq_true rfl⟩) (z_recv K w 0 11 rfl rfl) rfl hl.1 rfl (Nat.le_of_ble_eq_true rfl) ⟨Nat.zero_le _, Nat.zero_le _⟩ dX11_cleared_53 (fun b10 H locs w => ?_)
          exact z_reti S w hr hlk dX11_cleared_56 trivial (Option.some.inj h).symm
        · have h := og_t c9 h
          refine lv_iload S.1 S.2.1 dX11_cleared_45 (lv_at hl 0 rfl) ?_
          refine lv_goto (tgt := 56) S.1 S.2.1 dX11_cleared_47 (by decide) ?_
          exact z_reti S w hr hlk dX11_cleared_56 trivial (Option.some.inj h).symm
    · have h := og_t c4 h
      refine lv_iconst (v := -1) S.1 S.2.1 dX11_cleared_20 (by decide) ?_
      exact z_reti S w hr hlk dX11_cleared_21 trivial (Option.some.inj h).symm
set_option maxHeartbeats 4000000 in
set_option maxRecDepth 100000 in
theorem c_X11_forged (l : Launch) (D : va_G) (cs : Nat → ClassId) (ad : Nat → Nat) (F : ZF) (A : ZA) (T : Int64) (a0 a1 a2 : Int32) (q : (Int32 × ZS)) (h : f_X11_forged a0 a1 a2 F A T = some q) : zMi l D cs (MW cs ad) yX11_forged cX11_forged 8 (some .int) rm_X11_forged ([.ref (ad 0), .int a0, .int a1, .int a2] : List Value) F A T q True := by
  refine z_enteri (by decide) (Nat.le_of_ble_eq_true rfl) ?_
  intro p e s m below meth c A0 ls S K w hA hr hlk hl
  have S : CallFix p m c cX11_forged 8 s ([.ref (ad 0), .int a0, .int a1, .int a2] : List Value).toArray zWs RX11 := S
  have hl : lv_has ls 8 [(0, .ref (ad 0)), (1, .int a0), (2, .int a1), (3, .int a2)] := hl
  unfold f_X11_forged at h
  have j62 : ∀ (n62 : Nat) (x1 x2 x3 x4 x5 x6 x7 : Int32) (F : ZF) (A : ZA) (T : Int64), f_X11_forged_62 n62 x1 x2 x3 x4 x5 x6 x7 F A T = some q → ∀ (H : Heap) (locs : List Loc) (ls : Array Slot), lv_has ls 8 [(0, .ref (ad 0)), (1, .int x1), (2, .int x2), (3, .int x3), (4, .int x4), (5, .int x5), (6, .int x6), (7, .int x7)] → ZW D A0 s.heap (MW cs ad F A T) H locs → W p l e rm_X11_forged s m ([.ref (ad 0), .int a0, .int a1, .int a2] : List Value).toArray below meth c H locs 0 0 (zQi (MW cs ad) D A0 below ([.ref (ad 0), .int a0, .int a1, .int a2] : List Value) s q True) (F0 m 62 ls []) := by
    intro n62
    induction n62 with
    | zero =>
      intro x1 x2 x3 x4 x5 x6 x7 F A T h H locs ls hl w
      have h : (none : Option (Int32 × ZS)) = some q := h
      cases h
    | succ n62 ih62 =>
      intro x1 x2 x3 x4 x5 x6 x7 F A T h H locs ls hl w
      rw [f_X11_forged_62_s] at h
      have j90 : ∀ (x1 x2 x3 x4 x5 x6 x7 y0 y1 : Int32) (F : ZF) (A : ZA) (T : Int64), f_X11_forged_90 (f_X11_forged_62 n62) x1 x2 x3 x4 x5 x6 x7 y0 y1 F A T = some q → ∀ (H : Heap) (locs : List Loc) (ls : Array Slot), lv_has ls 8 [(0, .ref (ad 0)), (1, .int x1), (2, .int x2), (3, .int x3), (4, .int x4), (5, .int x5), (6, .int x6), (7, .int x7)] → ZW D A0 s.heap (MW cs ad F A T) H locs → W p l e rm_X11_forged s m ([.ref (ad 0), .int a0, .int a1, .int a2] : List Value).toArray below meth c H locs 0 0 (zQi (MW cs ad) D A0 below ([.ref (ad 0), .int a0, .int a1, .int a2] : List Value) s q True) (F0 m 90 ls [.int y0, .int y1, .ref (ad 17)]) := by
        intro x1 x2 x3 x4 x5 x6 x7 y0 y1 F A T h H locs ls hl w
        unfold f_X11_forged_90 at h
        obtain ⟨g3, h⟩ := og_g h
        refine sM_17 S K w g3 dX11_forged_90 (fun H locs w => ?_)
        refine lv_aload_n S.1 S.2.1 dX11_forged_91 rfl (lv_at hl 0 rfl) ?_
        refine lv_iload S.1 S.2.1 dX11_forged_92 (lv_at hl 6 rfl) ?_
        refine lv_iload S.1 S.2.1 dX11_forged_94 (lv_at hl 5 rfl) ?_
        refine lv_isub S.1 S.2.1 dX11_forged_96 ?_
        refine lv_aload_n S.1 S.2.1 dX11_forged_97 rfl (lv_at hl 0 rfl) ?_
        refine gM_0_26 S K w w754 dX11_forged_98 ?_
        refine lv_iload_n S.1 S.2.1 dX11_forged_101 rfl (lv_at hl 1 rfl) ?_
        obtain ⟨g4, h⟩ := og_g h
        refine aM_17 S K w g4 dX11_forged_102 ?_
        refine lv_iadd S.1 S.2.1 dX11_forged_103 ?_
        refine pM_0_27 S K w w755 dX11_forged_104 (fun H locs w => ?_)
        refine lv_aload_n S.1 S.2.1 dX11_forged_107 rfl (lv_at hl 0 rfl) ?_
        refine lv_iload_n S.1 S.2.1 dX11_forged_108 rfl (lv_at hl 1 rfl) ?_
        refine lv_iload_n S.1 S.2.1 dX11_forged_109 rfl (lv_at hl 2 rfl) ?_
        refine lv_iload_n S.1 S.2.1 dX11_forged_110 rfl (lv_at hl 3 rfl) ?_
        refine lv_iconst (v := 0) S.1 S.2.1 dX11_forged_111 (by decide) ?_
        obtain ⟨q6, e7, h⟩ := og_b h
        refine z_callVr S K w hA (c_X11_isSo l D cs ad (upd F 9 ((x6 - x5) + ((zst A 17 (y1).toNatClampNeg y0) 17 (x1).toNatClampNeg))) (zst A 17 (y1).toNatClampNeg y0) T x1 x2 x3 (0 : Int32) q6 e7) (cw_X11_178 S.2.2.2.2 ⟨Nat.le_of_ble_eq_true rfl, Nat.le_of_ble_eq_true rfl⟩) (z_recv K w 0 11 rfl rfl) rfl hl.1 rfl (Nat.le_of_ble_eq_true rfl) ⟨Nat.zero_le _, Nat.zero_le _⟩ dX11_forged_112 (fun b5 H locs w => ?_)
        refine lv_if_eq (tgt := 121) S.1 S.2.1 dX11_forged_115 (by decide) (fun c8 => ?_) (fun c8 => ?_)
        · have h := og_t c8 h
          refine lv_iinc (v := (x7 + (1 : Int32))) (lv' := [(7, .int (x7 + (1 : Int32))), (0, .ref (ad 0)), (1, .int x1), (2, .int x2), (3, .int x3), (4, .int x4), (5, .int x5), (6, .int x6)]) S.1 S.2.1 dX11_forged_121 hl (k := 7) rfl rfl (by decide) rfl (fun ls hl => ?_)
          refine lv_goto (tgt := 62) S.1 S.2.1 dX11_forged_124 (by decide) ?_
          exact ih62 _ _ _ _ _ _ _ _ _ _ h _ _ _ (lv_sub hl [1, 2, 3, 4, 5, 6, 7, 0] rfl) w
        · have h := og_f c8 h
          refine lv_iload S.1 S.2.1 dX11_forged_118 (lv_at hl 7 rfl) ?_
          exact z_reti S w hr hlk dX11_forged_120 trivial (Option.some.inj h).symm
      refine lv_iload S.1 S.2.1 dX11_forged_62 (lv_at hl 7 rfl) ?_
      refine lv_iload S.1 S.2.1 dX11_forged_64 (lv_at hl 4 rfl) ?_
      refine lv_icmp_gt (tgt := 127) S.1 S.2.1 dX11_forged_66 (by decide) (fun c1 => ?_) (fun c1 => ?_)
      · have h := og_t c1 h
        refine lv_bipush (v := -9) S.1 S.2.1 dX11_forged_127 (by decide) ?_
        exact z_reti S w hr hlk dX11_forged_129 trivial (Option.some.inj h).symm
      · have h := og_f c1 h
        refine lv_aload_n S.1 S.2.1 dX11_forged_69 rfl (lv_at hl 0 rfl) ?_
        refine gM_0_26 S K w w754 dX11_forged_70 ?_
        refine lv_iload_n S.1 S.2.1 dX11_forged_73 rfl (lv_at hl 1 rfl) ?_
        refine lv_iload S.1 S.2.1 dX11_forged_74 (lv_at hl 5 rfl) ?_
        refine lv_iload S.1 S.2.1 dX11_forged_76 (lv_at hl 7 rfl) ?_
        refine lv_icmp_le (tgt := 89) S.1 S.2.1 dX11_forged_78 (by decide) (fun c2 => ?_) (fun c2 => ?_)
        · have h := og_t c2 h
          refine lv_iconst (v := 0) S.1 S.2.1 dX11_forged_89 (by decide) ?_
          exact j90 _ _ _ _ _ _ _ _ _ _ _ _ h _ _ _ (lv_sub hl [0, 1, 2, 3, 4, 5, 6, 7] rfl) w
        · have h := og_f c2 h
          refine lv_iload S.1 S.2.1 dX11_forged_81 (lv_at hl 5 rfl) ?_
          refine lv_iload S.1 S.2.1 dX11_forged_83 (lv_at hl 7 rfl) ?_
          refine lv_isub S.1 S.2.1 dX11_forged_85 ?_
          refine lv_goto (tgt := 90) S.1 S.2.1 dX11_forged_86 (by decide) ?_
          exact j90 _ _ _ _ _ _ _ _ _ _ _ _ h _ _ _ (lv_sub hl [0, 1, 2, 3, 4, 5, 6, 7] rfl) w
  refine lv_aload_n S.1 S.2.1 dX11_forged_0 rfl (lv_at hl 0 rfl) ?_
  refine lv_iload_n S.1 S.2.1 dX11_forged_1 rfl (lv_at hl 1 rfl) ?_
  refine lv_iload_n S.1 S.2.1 dX11_forged_2 rfl (lv_at hl 2 rfl) ?_
  refine lv_iload_n S.1 S.2.1 dX11_forged_3 rfl (lv_at hl 3 rfl) ?_
  refine z_callVr S K w hA (c_X11_isShare l D cs ad F A T a0 a1 a2 (f_X11_isShare a0 a1 a2 F A T) rfl) (cw_X11_182 S.2.2.2.2 ⟨Nat.le_of_ble_eq_true rfl, Nat.le_of_ble_eq_true rfl⟩) (z_recv K w 0 11 rfl rfl) rfl hl.1 rfl (Nat.le_of_ble_eq_true rfl) ⟨Nat.zero_le _, Nat.zero_le _⟩ dX11_forged_4 (fun b9 H locs w => ?_)
  refine lv_if_ne (tgt := 12) S.1 S.2.1 dX11_forged_7 (by decide) (fun c10 => ?_) (fun c10 => ?_)
  · have h := og_f c10 h
    refine lv_aload_n S.1 S.2.1 dX11_forged_12 rfl (lv_at hl 0 rfl) ?_
    refine gM_0_15 S K w w743 dX11_forged_13 ?_
    refine lv_iconst (v := 0) S.1 S.2.1 dX11_forged_16 (by decide) ?_
    refine aM_14 S K w gk_0_2 dX11_forged_17 ?_
    refine lv_aload_n S.1 S.2.1 dX11_forged_18 rfl (lv_at hl 0 rfl) ?_
    refine gM_0_14 S K w w742 dX11_forged_19 ?_
    refine lv_iconst (v := 0) S.1 S.2.1 dX11_forged_22 (by decide) ?_
    refine aM_13 S K w gk_0_2 dX11_forged_23 ?_
    refine lv_isub S.1 S.2.1 dX11_forged_24 ?_
    refine lv_iconst (v := 1) S.1 S.2.1 dX11_forged_25 (by decide) ?_
    refine lv_iadd S.1 S.2.1 dX11_forged_26 ?_
    refine lv_aload_n S.1 S.2.1 dX11_forged_27 rfl (lv_at hl 0 rfl) ?_
    refine lv_iload_n S.1 S.2.1 dX11_forged_28 rfl (lv_at hl 1 rfl) ?_
    obtain ⟨q12, e13, h⟩ := og_b h
    refine z_callVr S K w hA (c_X11_hoursOf l D cs ad F A T a0 q12 e13) (cw_X11_137 S.2.2.2.2 ⟨Nat.le_of_ble_eq_true rfl, Nat.le_of_ble_eq_true rfl⟩) (z_recv K w 0 11 rfl rfl) rfl hl.1 rfl (Nat.le_of_ble_eq_true rfl) ⟨Nat.zero_le _, Nat.zero_le _⟩ dX11_forged_29 (fun b11 H locs w => ?_)
    refine lv_isub S.1 S.2.1 dX11_forged_32 ?_
    refine lv_istore (lv' := [(4, .int ((((A 14 ((0 : Int32)).toNatClampNeg) - (A 13 ((0 : Int32)).toNatClampNeg)) + (1 : Int32)) - q12)), (0, .ref (ad 0)), (1, .int a0), (2, .int a1), (3, .int a2)]) S.1 S.2.1 dX11_forged_33 hl (by decide) rfl (fun ls hl => ?_)
    refine lv_aload_n S.1 S.2.1 dX11_forged_35 rfl (lv_at hl 1 rfl) ?_
    refine lv_aload_n S.1 S.2.1 dX11_forged_36 rfl (lv_at hl 1 rfl) ?_
    refine gM_0_24 S K w w752 dX11_forged_37 ?_
    refine lv_iconst (v := 0) S.1 S.2.1 dX11_forged_40 (by decide) ?_
    refine aM_15 S K w gk_0_102 dX11_forged_41 ?_
    obtain ⟨q14, e15, h⟩ := og_b h
    refine z_callVv S K w hA (c_X11_hold l D cs ad F A T (A 15 ((0 : Int32)).toNatClampNeg) q14 e15) (cw_X11_147 S.2.2.2.2 ⟨Nat.le_of_ble_eq_true rfl, Nat.le_of_ble_eq_true rfl⟩) (z_recv K w 0 11 rfl rfl) rfl hl.1 rfl (Nat.le_of_ble_eq_true rfl) ⟨Nat.zero_le _, Nat.zero_le _⟩ dX11_forged_42 (fun H locs w => ?_)
    refine lv_aload_n S.1 S.2.1 dX11_forged_45 rfl (lv_at hl 1 rfl) ?_
    refine gM_0_26 S K w w754 dX11_forged_46 ?_
    refine lv_iload_n S.1 S.2.1 dX11_forged_49 rfl (lv_at hl 2 rfl) ?_
    obtain ⟨g16, h⟩ := og_g h
    refine aM_17 S K w g16 dX11_forged_50 ?_
    refine lv_istore (lv' := [(5, .int (q14.2.1 17 (a0).toNatClampNeg)), (4, .int ((((A 14 ((0 : Int32)).toNatClampNeg) - (A 13 ((0 : Int32)).toNatClampNeg)) + (1 : Int32)) - q12)), (0, .ref (ad 0)), (1, .int a0), (2, .int a1), (3, .int a2)]) S.1 S.2.1 dX11_forged_51 hl (by decide) rfl (fun ls hl => ?_)
    refine lv_aload_n S.1 S.2.1 dX11_forged_53 rfl (lv_at hl 2 rfl) ?_
    refine gM_0_27 S K w w755 dX11_forged_54 ?_
    refine lv_istore (lv' := [(6, .int (q14.1 9)), (5, .int (q14.2.1 17 (a0).toNatClampNeg)), (4, .int ((((A 14 ((0 : Int32)).toNatClampNeg) - (A 13 ((0 : Int32)).toNatClampNeg)) + (1 : Int32)) - q12)), (0, .ref (ad 0)), (1, .int a0), (2, .int a1), (3, .int a2)]) S.1 S.2.1 dX11_forged_57 hl (by decide) rfl (fun ls hl => ?_)
    refine lv_iconst (v := 0) S.1 S.2.1 dX11_forged_59 (by decide) ?_
    refine lv_istore (lv' := [(7, .int (0 : Int32)), (6, .int (q14.1 9)), (5, .int (q14.2.1 17 (a0).toNatClampNeg)), (4, .int ((((A 14 ((0 : Int32)).toNatClampNeg) - (A 13 ((0 : Int32)).toNatClampNeg)) + (1 : Int32)) - q12)), (0, .ref (ad 0)), (1, .int a0), (2, .int a1), (3, .int a2)]) S.1 S.2.1 dX11_forged_60 hl (by decide) rfl (fun ls hl => ?_)
    exact j62 1000 _ _ _ _ _ _ _ _ _ _ h _ _ _ (lv_sub hl [4, 5, 6, 7, 3, 2, 1, 0] rfl) w
  · have h := og_t c10 h
    refine lv_iconst (v := -1) S.1 S.2.1 dX11_forged_10 (by decide) ?_
    exact z_reti S w hr hlk dX11_forged_11 trivial (Option.some.inj h).symm
set_option maxHeartbeats 4000000 in
set_option maxRecDepth 100000 in
theorem c_X11_manyOf (l : Launch) (D : va_G) (cs : Nat → ClassId) (ad : Nat → Nat) (F : ZF) (A : ZA) (T : Int64) (a0 : Int32) (q : Int32) (h : f_X11_manyOf a0 = some q) : zMi l D cs (MW cs ad) yX11_manyOf cX11_manyOf 3 (some .int) rm_X11_manyOf ([.int a0] : List Value) F A T ((q, F, A, T) : Int32 × ZS) True := by
  refine z_enteri (by decide) (Nat.le_of_ble_eq_true rfl) ?_
  intro p e s m below meth c A0 ls S K w hA hr hlk hl
  have S : CallFix p m c cX11_manyOf 3 s ([.int a0] : List Value).toArray zWs RX11 := S
  have hl : lv_has ls 3 [(0, .int a0)] := hl
  unfold f_X11_manyOf at h
  have j4 : ∀ (n4 : Nat) (x0 x1 x2 : Int32), f_X11_manyOf_4 n4 x0 x1 x2 = some q → ∀ (H : Heap) (locs : List Loc) (ls : Array Slot), lv_has ls 3 [(0, .int x0), (1, .int x1), (2, .int x2)] → ZW D A0 s.heap (MW cs ad F A T) H locs → W p l e rm_X11_manyOf s m ([.int a0] : List Value).toArray below meth c H locs 0 0 (zQi (MW cs ad) D A0 below ([.int a0] : List Value) s ((q, F, A, T) : Int32 × ZS) True) (F0 m 4 ls []) := by
    intro n4
    induction n4 with
    | zero =>
      intro x0 x1 x2 h H locs ls hl w
      have h : (none : Option Int32) = some q := h
      cases h
    | succ n4 ih4 =>
      intro x0 x1 x2 h H locs ls hl w
      rw [f_X11_manyOf_4_s] at h
      refine lv_iload_n S.1 S.2.1 dX11_manyOf_4 rfl (lv_at hl 2 rfl) ?_
      refine lv_bipush (v := 8) S.1 S.2.1 dX11_manyOf_5 (by decide) ?_
      refine lv_icmp_ge (tgt := 24) S.1 S.2.1 dX11_manyOf_7 (by decide) (fun c1 => ?_) (fun c1 => ?_)
      · have h := og_t c1 h
        refine lv_iload_n S.1 S.2.1 dX11_manyOf_24 rfl (lv_at hl 1 rfl) ?_
        exact z_reti S w hr hlk dX11_manyOf_25 trivial (by rw [← Option.some.inj h])
      · have h := og_f c1 h
        refine lv_iload_n S.1 S.2.1 dX11_manyOf_10 rfl (lv_at hl 1 rfl) ?_
        refine lv_iload_n S.1 S.2.1 dX11_manyOf_11 rfl (lv_at hl 0 rfl) ?_
        refine lv_iload_n S.1 S.2.1 dX11_manyOf_12 rfl (lv_at hl 2 rfl) ?_
        refine lv_ishr S.1 S.2.1 dX11_manyOf_13 ?_
        refine lv_iconst (v := 1) S.1 S.2.1 dX11_manyOf_14 (by decide) ?_
        refine lv_iand S.1 S.2.1 dX11_manyOf_15 ?_
        refine lv_iadd S.1 S.2.1 dX11_manyOf_16 ?_
        refine lv_istore_n (lv' := [(1, .int (x1 + ((x0 >>> (x2 &&& 31)) &&& (1 : Int32)))), (0, .int x0), (2, .int x2)]) S.1 S.2.1 dX11_manyOf_17 rfl hl (by decide) rfl (fun ls hl => ?_)
        refine lv_iinc (v := (x2 + (1 : Int32))) (lv' := [(2, .int (x2 + (1 : Int32))), (1, .int (x1 + ((x0 >>> (x2 &&& 31)) &&& (1 : Int32)))), (0, .int x0)]) S.1 S.2.1 dX11_manyOf_18 hl (k := 2) rfl rfl (by decide) rfl (fun ls hl => ?_)
        refine lv_goto (tgt := 4) S.1 S.2.1 dX11_manyOf_21 (by decide) ?_
        exact ih4 _ _ _ h _ _ _ (lv_sub hl [2, 1, 0] rfl) w
  refine lv_iconst (v := 0) S.1 S.2.1 dX11_manyOf_0 (by decide) ?_
  refine lv_istore_n (lv' := [(1, .int (0 : Int32)), (0, .int a0)]) S.1 S.2.1 dX11_manyOf_1 rfl hl (by decide) rfl (fun ls hl => ?_)
  refine lv_iconst (v := 0) S.1 S.2.1 dX11_manyOf_2 (by decide) ?_
  refine lv_istore_n (lv' := [(2, .int (0 : Int32)), (1, .int (0 : Int32)), (0, .int a0)]) S.1 S.2.1 dX11_manyOf_3 rfl hl (by decide) rfl (fun ls hl => ?_)
  exact j4 1000 _ _ _ h _ _ _ (lv_sub hl [2, 1, 0] rfl) w
set_option maxHeartbeats 4000000 in
set_option maxRecDepth 100000 in
theorem c_X11_clashes (l : Launch) (D : va_G) (cs : Nat → ClassId) (ad : Nat → Nat) (F : ZF) (A : ZA) (T : Int64) (a0 a1 : Int32) (q : Int32) (h : f_X11_clashes a0 a1 F A T = some q) : zMi l D cs (MW cs ad) yX11_clashes cX11_clashes 3 (some .boolean) rm_X11_clashes ([.ref (ad 0), .int a0, .int a1] : List Value) F A T ((q, F, A, T) : Int32 × ZS) (((q, F, A, T) : Int32 × ZS).1 &&& 1 = ((q, F, A, T) : Int32 × ZS).1) := by
  refine z_enteri (by decide) (Nat.le_of_ble_eq_true rfl) ?_
  intro p e s m below meth c A0 ls S K w hA hr hlk hl
  have S : CallFix p m c cX11_clashes 3 s ([.ref (ad 0), .int a0, .int a1] : List Value).toArray zWs RX11 := S
  have hl : lv_has ls 3 [(0, .ref (ad 0)), (1, .int a0), (2, .int a1)] := hl
  unfold f_X11_clashes at h
  refine lv_aload_n S.1 S.2.1 dX11_clashes_0 rfl (lv_at hl 0 rfl) ?_
  refine gM_0_10 S K w w738 dX11_clashes_1 ?_
  refine lv_iload_n S.1 S.2.1 dX11_clashes_4 rfl (lv_at hl 1 rfl) ?_
  obtain ⟨g1, h⟩ := og_g h
  refine aM_9 S K w g1 dX11_clashes_5 ?_
  refine lv_aload_n S.1 S.2.1 dX11_clashes_6 rfl (lv_at hl 0 rfl) ?_
  refine gM_0_10 S K w w738 dX11_clashes_7 ?_
  refine lv_iload_n S.1 S.2.1 dX11_clashes_10 rfl (lv_at hl 2 rfl) ?_
  obtain ⟨g2, h⟩ := og_g h
  refine aM_9 S K w g2 dX11_clashes_11 ?_
  refine lv_icmp_ne (tgt := 64) S.1 S.2.1 dX11_clashes_12 (by decide) (fun c3 => ?_) (fun c3 => ?_)
  · have h := og_f c3 h
    refine lv_iconst (v := 0) S.1 S.2.1 dX11_clashes_64 (by decide) ?_
    exact z_retz S w hr hlk dX11_clashes_65 (by decide) (by rw [← Option.some.inj h])
  · have h := og_t c3 h
    refine lv_aload_n S.1 S.2.1 dX11_clashes_15 rfl (lv_at hl 0 rfl) ?_
    refine gM_0_11 S K w w739 dX11_clashes_16 ?_
    refine lv_iload_n S.1 S.2.1 dX11_clashes_19 rfl (lv_at hl 1 rfl) ?_
    obtain ⟨g4, h⟩ := og_g h
    refine aM_10 S K w g4 dX11_clashes_20 ?_
    refine lv_aload_n S.1 S.2.1 dX11_clashes_21 rfl (lv_at hl 0 rfl) ?_
    refine gM_0_11 S K w w739 dX11_clashes_22 ?_
    refine lv_iload_n S.1 S.2.1 dX11_clashes_25 rfl (lv_at hl 2 rfl) ?_
    obtain ⟨g5, h⟩ := og_g h
    refine aM_10 S K w g5 dX11_clashes_26 ?_
    refine lv_icmp_eq (tgt := 64) S.1 S.2.1 dX11_clashes_27 (by decide) (fun c6 => ?_) (fun c6 => ?_)
    · have h := og_t c6 h
      refine lv_iconst (v := 0) S.1 S.2.1 dX11_clashes_64 (by decide) ?_
      exact z_retz S w hr hlk dX11_clashes_65 (by decide) (by rw [← Option.some.inj h])
    · have h := og_f c6 h
      refine lv_aload_n S.1 S.2.1 dX11_clashes_30 rfl (lv_at hl 0 rfl) ?_
      refine gM_0_12 S K w w740 dX11_clashes_31 ?_
      refine lv_iload_n S.1 S.2.1 dX11_clashes_34 rfl (lv_at hl 1 rfl) ?_
      obtain ⟨g7, h⟩ := og_g h
      refine aM_11 S K w g7 dX11_clashes_35 ?_
      refine lv_aload_n S.1 S.2.1 dX11_clashes_36 rfl (lv_at hl 0 rfl) ?_
      refine gM_0_13 S K w w741 dX11_clashes_37 ?_
      refine lv_iload_n S.1 S.2.1 dX11_clashes_40 rfl (lv_at hl 2 rfl) ?_
      obtain ⟨g8, h⟩ := og_g h
      refine aM_12 S K w g8 dX11_clashes_41 ?_
      refine lv_icmp_gt (tgt := 64) S.1 S.2.1 dX11_clashes_42 (by decide) (fun c9 => ?_) (fun c9 => ?_)
      · have h := og_t c9 h
        refine lv_iconst (v := 0) S.1 S.2.1 dX11_clashes_64 (by decide) ?_
        exact z_retz S w hr hlk dX11_clashes_65 (by decide) (by rw [← Option.some.inj h])
      · have h := og_f c9 h
        refine lv_aload_n S.1 S.2.1 dX11_clashes_45 rfl (lv_at hl 0 rfl) ?_
        refine gM_0_12 S K w w740 dX11_clashes_46 ?_
        refine lv_iload_n S.1 S.2.1 dX11_clashes_49 rfl (lv_at hl 2 rfl) ?_
        obtain ⟨g10, h⟩ := og_g h
        refine aM_11 S K w g10 dX11_clashes_50 ?_
        refine lv_aload_n S.1 S.2.1 dX11_clashes_51 rfl (lv_at hl 0 rfl) ?_
        refine gM_0_13 S K w w741 dX11_clashes_52 ?_
        refine lv_iload_n S.1 S.2.1 dX11_clashes_55 rfl (lv_at hl 1 rfl) ?_
        obtain ⟨g11, h⟩ := og_g h
        refine aM_12 S K w g11 dX11_clashes_56 ?_
        refine lv_icmp_gt (tgt := 64) S.1 S.2.1 dX11_clashes_57 (by decide) (fun c12 => ?_) (fun c12 => ?_)
        · have h := og_t c12 h
          refine lv_iconst (v := 0) S.1 S.2.1 dX11_clashes_64 (by decide) ?_
          exact z_retz S w hr hlk dX11_clashes_65 (by decide) (by rw [← Option.some.inj h])
        · have h := og_f c12 h
          refine lv_iconst (v := 1) S.1 S.2.1 dX11_clashes_60 (by decide) ?_
          refine lv_goto (tgt := 65) S.1 S.2.1 dX11_clashes_61 (by decide) ?_
          exact z_retz S w hr hlk dX11_clashes_65 (by decide) (by rw [← Option.some.inj h])
set_option maxHeartbeats 4000000 in
set_option maxRecDepth 100000 in
theorem c_X11_hasClash (l : Launch) (D : va_G) (cs : Nat → ClassId) (ad : Nat → Nat) (F : ZF) (A : ZA) (T : Int64) (a0 : Int32) (q : Int32) (h : f_X11_hasClash a0 F A T = some q) : zMi l D cs (MW cs ad) yX11_hasClash cX11_hasClash 5 (some .boolean) rm_X11_hasClash ([.ref (ad 0), .int a0] : List Value) F A T ((q, F, A, T) : Int32 × ZS) (((q, F, A, T) : Int32 × ZS).1 &&& 1 = ((q, F, A, T) : Int32 × ZS).1) := by
  refine z_enteri (by decide) (Nat.le_of_ble_eq_true rfl) ?_
  intro p e s m below meth c A0 ls S K w hA hr hlk hl
  have S : CallFix p m c cX11_hasClash 5 s ([.ref (ad 0), .int a0] : List Value).toArray zWs RX11 := S
  have hl : lv_has ls 5 [(0, .ref (ad 0)), (1, .int a0)] := hl
  unfold f_X11_hasClash at h
  have j4 : ∀ (n4 : Nat) (x1 x2 x3 : Int32), f_X11_hasClash_4 F A T n4 x1 x2 x3 = some q → ∀ (H : Heap) (locs : List Loc) (ls : Array Slot), lv_has ls 5 [(0, .ref (ad 0)), (1, .int x1), (2, .int x2), (3, .int x3)] → ZW D A0 s.heap (MW cs ad F A T) H locs → W p l e rm_X11_hasClash s m ([.ref (ad 0), .int a0] : List Value).toArray below meth c H locs 0 0 (zQi (MW cs ad) D A0 below ([.ref (ad 0), .int a0] : List Value) s ((q, F, A, T) : Int32 × ZS) (((q, F, A, T) : Int32 × ZS).1 &&& 1 = ((q, F, A, T) : Int32 × ZS).1)) (F0 m 4 ls []) := by
    intro n4
    induction n4 with
    | zero =>
      intro x1 x2 x3 h H locs ls hl w
      have h : (none : Option Int32) = some q := h
      cases h
    | succ n4 ih4 =>
      intro x1 x2 x3 h H locs ls hl w
      rw [f_X11_hasClash_4_s] at h
      have j17 : ∀ (n17 : Nat) (x1 x2 x3 x4 : Int32), f_X11_hasClash_17 F A T (f_X11_hasClash_4 F A T n4) n17 x1 x2 x3 x4 = some q → ∀ (H : Heap) (locs : List Loc) (ls : Array Slot), lv_has ls 5 [(0, .ref (ad 0)), (1, .int x1), (2, .int x2), (3, .int x3), (4, .int x4)] → ZW D A0 s.heap (MW cs ad F A T) H locs → W p l e rm_X11_hasClash s m ([.ref (ad 0), .int a0] : List Value).toArray below meth c H locs 0 0 (zQi (MW cs ad) D A0 below ([.ref (ad 0), .int a0] : List Value) s ((q, F, A, T) : Int32 × ZS) (((q, F, A, T) : Int32 × ZS).1 &&& 1 = ((q, F, A, T) : Int32 × ZS).1)) (F0 m 17 ls []) := by
        intro n17
        induction n17 with
        | zero =>
          intro x1 x2 x3 x4 h H locs ls hl w
          have h : (none : Option Int32) = some q := h
          cases h
        | succ n17 ih17 =>
          intro x1 x2 x3 x4 h H locs ls hl w
          rw [f_X11_hasClash_17_s] at h
          refine lv_iload S.1 S.2.1 dX11_hasClash_17 (lv_at hl 4 rfl) ?_
          refine lv_iload_n S.1 S.2.1 dX11_hasClash_19 rfl (lv_at hl 3 rfl) ?_
          refine lv_icmp_ge (tgt := 66) S.1 S.2.1 dX11_hasClash_20 (by decide) (fun c3 => ?_) (fun c3 => ?_)
          · have h := og_t c3 h
            refine lv_iinc (v := (x3 + (1 : Int32))) (lv' := [(3, .int (x3 + (1 : Int32))), (0, .ref (ad 0)), (1, .int x1), (2, .int x2), (4, .int x4)]) S.1 S.2.1 dX11_hasClash_66 hl (k := 3) rfl rfl (by decide) rfl (fun ls hl => ?_)
            refine lv_goto (tgt := 4) S.1 S.2.1 dX11_hasClash_69 (by decide) ?_
            exact ih4 _ _ _ h _ _ _ (lv_sub hl [1, 2, 3, 0] rfl) w
          · have h := og_f c3 h
            refine lv_iload_n S.1 S.2.1 dX11_hasClash_23 rfl (lv_at hl 2 rfl) ?_
            refine lv_if_ne (tgt := 54) S.1 S.2.1 dX11_hasClash_24 (by decide) (fun c4 => ?_) (fun c4 => ?_)
            · have h := og_f c4 h
              refine lv_iconst (v := 1) S.1 S.2.1 dX11_hasClash_54 (by decide) ?_
              refine lv_goto (tgt := 59) S.1 S.2.1 dX11_hasClash_55 (by decide) ?_
              refine lv_istore_n (lv' := [(2, .int (1 : Int32)), (0, .ref (ad 0)), (1, .int x1), (3, .int x3), (4, .int x4)]) S.1 S.2.1 dX11_hasClash_59 rfl hl (by decide) rfl (fun ls hl => ?_)
              refine lv_iinc (v := (x4 + (1 : Int32))) (lv' := [(4, .int (x4 + (1 : Int32))), (2, .int (1 : Int32)), (0, .ref (ad 0)), (1, .int x1), (3, .int x3)]) S.1 S.2.1 dX11_hasClash_60 hl (k := 4) rfl rfl (by decide) rfl (fun ls hl => ?_)
              refine lv_goto (tgt := 17) S.1 S.2.1 dX11_hasClash_63 (by decide) ?_
              exact ih17 _ _ _ _ h _ _ _ (lv_sub hl [2, 3, 1, 4, 0] rfl) w
            · have h := og_t c4 h
              refine lv_iload_n S.1 S.2.1 dX11_hasClash_27 rfl (lv_at hl 1 rfl) ?_
              refine lv_iload_n S.1 S.2.1 dX11_hasClash_28 rfl (lv_at hl 3 rfl) ?_
              refine lv_ishr S.1 S.2.1 dX11_hasClash_29 ?_
              refine lv_iconst (v := 1) S.1 S.2.1 dX11_hasClash_30 (by decide) ?_
              refine lv_iand S.1 S.2.1 dX11_hasClash_31 ?_
              refine lv_if_ne (tgt := 58) S.1 S.2.1 dX11_hasClash_32 (by decide) (fun c5 => ?_) (fun c5 => ?_)
              · have h := og_f c5 h
                refine lv_iconst (v := 0) S.1 S.2.1 dX11_hasClash_58 (by decide) ?_
                refine lv_istore_n (lv' := [(2, .int (0 : Int32)), (0, .ref (ad 0)), (1, .int x1), (3, .int x3), (4, .int x4)]) S.1 S.2.1 dX11_hasClash_59 rfl hl (by decide) rfl (fun ls hl => ?_)
                refine lv_iinc (v := (x4 + (1 : Int32))) (lv' := [(4, .int (x4 + (1 : Int32))), (2, .int (0 : Int32)), (0, .ref (ad 0)), (1, .int x1), (3, .int x3)]) S.1 S.2.1 dX11_hasClash_60 hl (k := 4) rfl rfl (by decide) rfl (fun ls hl => ?_)
                refine lv_goto (tgt := 17) S.1 S.2.1 dX11_hasClash_63 (by decide) ?_
                exact ih17 _ _ _ _ h _ _ _ (lv_sub hl [2, 3, 1, 4, 0] rfl) w
              · have h := og_t c5 h
                refine lv_iload_n S.1 S.2.1 dX11_hasClash_35 rfl (lv_at hl 1 rfl) ?_
                refine lv_iload S.1 S.2.1 dX11_hasClash_36 (lv_at hl 4 rfl) ?_
                refine lv_ishr S.1 S.2.1 dX11_hasClash_38 ?_
                refine lv_iconst (v := 1) S.1 S.2.1 dX11_hasClash_39 (by decide) ?_
                refine lv_iand S.1 S.2.1 dX11_hasClash_40 ?_
                refine lv_if_ne (tgt := 58) S.1 S.2.1 dX11_hasClash_41 (by decide) (fun c6 => ?_) (fun c6 => ?_)
                · have h := og_f c6 h
                  refine lv_iconst (v := 0) S.1 S.2.1 dX11_hasClash_58 (by decide) ?_
                  refine lv_istore_n (lv' := [(2, .int (0 : Int32)), (0, .ref (ad 0)), (1, .int x1), (3, .int x3), (4, .int x4)]) S.1 S.2.1 dX11_hasClash_59 rfl hl (by decide) rfl (fun ls hl => ?_)
                  refine lv_iinc (v := (x4 + (1 : Int32))) (lv' := [(4, .int (x4 + (1 : Int32))), (2, .int (0 : Int32)), (0, .ref (ad 0)), (1, .int x1), (3, .int x3)]) S.1 S.2.1 dX11_hasClash_60 hl (k := 4) rfl rfl (by decide) rfl (fun ls hl => ?_)
                  refine lv_goto (tgt := 17) S.1 S.2.1 dX11_hasClash_63 (by decide) ?_
                  exact ih17 _ _ _ _ h _ _ _ (lv_sub hl [2, 3, 1, 4, 0] rfl) w
                · have h := og_t c6 h
                  refine lv_aload_n S.1 S.2.1 dX11_hasClash_44 rfl (lv_at hl 0 rfl) ?_
                  refine lv_iload_n S.1 S.2.1 dX11_hasClash_45 rfl (lv_at hl 3 rfl) ?_
                  refine lv_iload S.1 S.2.1 dX11_hasClash_46 (lv_at hl 4 rfl) ?_
                  obtain ⟨q8, e9, h⟩ := og_b h
                  refine z_callVr S K w hA (c_X11_clashes l D cs ad F A T x3 x4 q8 e9) (cw_X11_189 S.2.2.2.2 ⟨Nat.le_of_ble_eq_true rfl, Nat.le_of_ble_eq_true rfl⟩) (z_recv K w 0 11 rfl rfl) rfl hl.1 rfl (Nat.le_of_ble_eq_true rfl) ⟨Nat.zero_le _, Nat.zero_le _⟩ dX11_hasClash_48 (fun b7 H locs w => ?_)
                  refine lv_if_eq (tgt := 58) S.1 S.2.1 dX11_hasClash_51 (by decide) (fun c10 => ?_) (fun c10 => ?_)
                  · have h := og_t c10 h
                    refine lv_iconst (v := 0) S.1 S.2.1 dX11_hasClash_58 (by decide) ?_
                    refine lv_istore_n (lv' := [(2, .int (0 : Int32)), (0, .ref (ad 0)), (1, .int x1), (3, .int x3), (4, .int x4)]) S.1 S.2.1 dX11_hasClash_59 rfl hl (by decide) rfl (fun ls hl => ?_)
                    refine lv_iinc (v := (x4 + (1 : Int32))) (lv' := [(4, .int (x4 + (1 : Int32))), (2, .int (0 : Int32)), (0, .ref (ad 0)), (1, .int x1), (3, .int x3)]) S.1 S.2.1 dX11_hasClash_60 hl (k := 4) rfl rfl (by decide) rfl (fun ls hl => ?_)
                    refine lv_goto (tgt := 17) S.1 S.2.1 dX11_hasClash_63 (by decide) ?_
                    exact ih17 _ _ _ _ h _ _ _ (lv_sub hl [2, 3, 1, 4, 0] rfl) w
                  · have h := og_f c10 h
                    refine lv_iconst (v := 1) S.1 S.2.1 dX11_hasClash_54 (by decide) ?_
                    refine lv_goto (tgt := 59) S.1 S.2.1 dX11_hasClash_55 (by decide) ?_
                    refine lv_istore_n (lv' := [(2, .int (1 : Int32)), (0, .ref (ad 0)), (1, .int x1), (3, .int x3), (4, .int x4)]) S.1 S.2.1 dX11_hasClash_59 rfl hl (by decide) rfl (fun ls hl => ?_)
                    refine lv_iinc (v := (x4 + (1 : Int32))) (lv' := [(4, .int (x4 + (1 : Int32))), (2, .int (1 : Int32)), (0, .ref (ad 0)), (1, .int x1), (3, .int x3)]) S.1 S.2.1 dX11_hasClash_60 hl (k := 4) rfl rfl (by decide) rfl (fun ls hl => ?_)
                    refine lv_goto (tgt := 17) S.1 S.2.1 dX11_hasClash_63 (by decide) ?_
                    exact ih17 _ _ _ _ h _ _ _ (lv_sub hl [2, 3, 1, 4, 0] rfl) w
      refine lv_iload_n S.1 S.2.1 dX11_hasClash_4 rfl (lv_at hl 3 rfl) ?_
      refine lv_aload_n S.1 S.2.1 dX11_hasClash_5 rfl (lv_at hl 0 rfl) ?_
      refine gM_0_9 S K w w737 dX11_hasClash_6 ?_
      refine lv_iconst (v := 0) S.1 S.2.1 dX11_hasClash_9 (by decide) ?_
      refine aM_8 S K w gk_0_2 dX11_hasClash_10 ?_
      refine lv_icmp_ge (tgt := 72) S.1 S.2.1 dX11_hasClash_11 (by decide) (fun c1 => ?_) (fun c1 => ?_)
      · have h := og_t c1 h
        refine lv_iload_n S.1 S.2.1 dX11_hasClash_72 rfl (lv_at hl 2 rfl) ?_
        obtain ⟨g2, h⟩ := og_g h
        exact z_retz S w hr hlk dX11_hasClash_73 g2 (by rw [← Option.some.inj h])
      · have h := og_f c1 h
        refine lv_iconst (v := 0) S.1 S.2.1 dX11_hasClash_14 (by decide) ?_
        refine lv_istore (lv' := [(4, .int (0 : Int32)), (0, .ref (ad 0)), (1, .int x1), (2, .int x2), (3, .int x3)]) S.1 S.2.1 dX11_hasClash_15 hl (by decide) rfl (fun ls hl => ?_)
        exact j17 1000 _ _ _ _ h _ _ _ (lv_sub hl [1, 2, 3, 4, 0] rfl) w
  refine lv_iconst (v := 0) S.1 S.2.1 dX11_hasClash_0 (by decide) ?_
  refine lv_istore_n (lv' := [(2, .int (0 : Int32)), (0, .ref (ad 0)), (1, .int a0)]) S.1 S.2.1 dX11_hasClash_1 rfl hl (by decide) rfl (fun ls hl => ?_)
  refine lv_iconst (v := 0) S.1 S.2.1 dX11_hasClash_2 (by decide) ?_
  refine lv_istore_n (lv' := [(3, .int (0 : Int32)), (2, .int (0 : Int32)), (0, .ref (ad 0)), (1, .int a0)]) S.1 S.2.1 dX11_hasClash_3 rfl hl (by decide) rfl (fun ls hl => ?_)
  exact j4 1000 _ _ _ h _ _ _ (lv_sub hl [2, 3, 1, 0] rfl) w
set_option maxHeartbeats 4000000 in
set_option maxRecDepth 100000 in
theorem c_X11_clash (l : Launch) (D : va_G) (cs : Nat → ClassId) (ad : Nat → Nat) (F : ZF) (A : ZA) (T : Int64) (a0 : Int32) (q : Int32) (h : f_X11_clash a0 F A T = some q) : zMi l D cs (MW cs ad) yX11_clash cX11_clash 5 (some .int) rm_X11_clash ([.ref (ad 0), .int a0] : List Value) F A T ((q, F, A, T) : Int32 × ZS) True := by
  refine z_enteri (by decide) (Nat.le_of_ble_eq_true rfl) ?_
  intro p e s m below meth c A0 ls S K w hA hr hlk hl
  have S : CallFix p m c cX11_clash 5 s ([.ref (ad 0), .int a0] : List Value).toArray zWs RX11 := S
  have hl : lv_has ls 5 [(0, .ref (ad 0)), (1, .int a0)] := hl
  unfold f_X11_clash at h
  have j75 : ∀ (n75 : Nat) (x2 x3 : Int32), f_X11_clash_75 F A T n75 x2 x3 = some q → ∀ (H : Heap) (locs : List Loc) (ls : Array Slot), lv_has ls 5 [(0, .ref (ad 0)), (2, .int x2), (3, .int x3)] → ZW D A0 s.heap (MW cs ad F A T) H locs → W p l e rm_X11_clash s m ([.ref (ad 0), .int a0] : List Value).toArray below meth c H locs 0 0 (zQi (MW cs ad) D A0 below ([.ref (ad 0), .int a0] : List Value) s ((q, F, A, T) : Int32 × ZS) True) (F0 m 75 ls []) := by
    intro n75
    induction n75 with
    | zero =>
      intro x2 x3 h H locs ls hl w
      have h : (none : Option Int32) = some q := h
      cases h
    | succ n75 ih75 =>
      intro x2 x3 h H locs ls hl w
      rw [f_X11_clash_75_s] at h
      have j104 : ∀ (x2 x3 : Int32), f_X11_clash_104 F A T (f_X11_clash_75 F A T n75) x2 x3 = some q → ∀ (H : Heap) (locs : List Loc) (ls : Array Slot), lv_has ls 5 [(0, .ref (ad 0)), (2, .int x2), (3, .int x3)] → ZW D A0 s.heap (MW cs ad F A T) H locs → W p l e rm_X11_clash s m ([.ref (ad 0), .int a0] : List Value).toArray below meth c H locs 0 0 (zQi (MW cs ad) D A0 below ([.ref (ad 0), .int a0] : List Value) s ((q, F, A, T) : Int32 × ZS) True) (F0 m 104 ls []) := by
        intro x2 x3 h H locs ls hl w
        unfold f_X11_clash_104 at h
        refine lv_aload_n S.1 S.2.1 dX11_clash_104 rfl (lv_at hl 0 rfl) ?_
        refine lv_iload_n S.1 S.2.1 dX11_clash_105 rfl (lv_at hl 2 rfl) ?_
        obtain ⟨q11, e12, h⟩ := og_b h
        refine z_callVr S K w hA (c_X11_hasClash l D cs ad F A T x3 q11 e12) (cw_X11_196 S.2.2.2.2 ⟨Nat.le_of_ble_eq_true rfl, Nat.le_of_ble_eq_true rfl⟩) (z_recv K w 0 11 rfl rfl) rfl hl.1 rfl (Nat.le_of_ble_eq_true rfl) ⟨Nat.zero_le _, Nat.zero_le _⟩ dX11_clash_106 (fun b10 H locs w => ?_)
        refine lv_if_ne (tgt := 114) S.1 S.2.1 dX11_clash_109 (by decide) (fun c13 => ?_) (fun c13 => ?_)
        · have h := og_f c13 h
          refine lv_iinc (v := (x3 + (1 : Int32))) (lv' := [(3, .int (x3 + (1 : Int32))), (0, .ref (ad 0)), (2, .int x2)]) S.1 S.2.1 dX11_clash_114 hl (k := 2) rfl rfl (by decide) rfl (fun ls hl => ?_)
          refine lv_goto (tgt := 75) S.1 S.2.1 dX11_clash_117 (by decide) ?_
          exact ih75 _ _ h _ _ _ (lv_sub hl [1, 2, 0] rfl) w
        · have h := og_t c13 h
          refine lv_iload_n S.1 S.2.1 dX11_clash_112 rfl (lv_at hl 2 rfl) ?_
          refine lv_istore_n (lv' := [(2, .int x3), (0, .ref (ad 0)), (3, .int x3)]) S.1 S.2.1 dX11_clash_113 rfl hl (by decide) rfl (fun ls hl => ?_)
          refine lv_iinc (v := (x3 + (1 : Int32))) (lv' := [(3, .int (x3 + (1 : Int32))), (2, .int x3), (0, .ref (ad 0))]) S.1 S.2.1 dX11_clash_114 hl (k := 2) rfl rfl (by decide) rfl (fun ls hl => ?_)
          refine lv_goto (tgt := 75) S.1 S.2.1 dX11_clash_117 (by decide) ?_
          exact ih75 _ _ h _ _ _ (lv_sub hl [2, 1, 0] rfl) w
      refine lv_iload_n S.1 S.2.1 dX11_clash_75 rfl (lv_at hl 2 rfl) ?_
      refine lv_iconst (v := 1) S.1 S.2.1 dX11_clash_76 (by decide) ?_
      refine lv_aload_n S.1 S.2.1 dX11_clash_77 rfl (lv_at hl 0 rfl) ?_
      refine gM_0_9 S K w w737 dX11_clash_78 ?_
      refine lv_iconst (v := 0) S.1 S.2.1 dX11_clash_81 (by decide) ?_
      refine aM_8 S K w gk_0_2 dX11_clash_82 ?_
      refine lv_ishl S.1 S.2.1 dX11_clash_83 ?_
      refine lv_icmp_ge (tgt := 120) S.1 S.2.1 dX11_clash_84 (by decide) (fun c1 => ?_) (fun c1 => ?_)
      · have h := og_t c1 h
        refine lv_iload_n S.1 S.2.1 dX11_clash_120 rfl (lv_at hl 1 rfl) ?_
        exact z_reti S w hr hlk dX11_clash_121 trivial (by rw [← Option.some.inj h])
      · have h := og_f c1 h
        refine lv_iload_n S.1 S.2.1 dX11_clash_87 rfl (lv_at hl 1 rfl) ?_
        refine lv_bipush (v := -9) S.1 S.2.1 dX11_clash_88 (by decide) ?_
        refine lv_icmp_eq (tgt := 104) S.1 S.2.1 dX11_clash_90 (by decide) (fun c2 => ?_) (fun c2 => ?_)
        · have h := og_t c2 h
          exact j104 _ _ h _ _ _ (lv_sub hl [0, 1, 2] rfl) w
        · have h := og_f c2 h
          refine lv_iload_n S.1 S.2.1 dX11_clash_93 rfl (lv_at hl 2 rfl) ?_
          obtain ⟨q4, e5, h⟩ := og_b h
          refine z_callSr S K w hA (c_X11_manyOf l D cs ad F A T x3 q4 e5) (cw_X11_193 S.2.2.2.2 ⟨Nat.le_of_ble_eq_true rfl, Nat.le_of_ble_eq_true rfl⟩) rfl hl.1 rfl (Nat.le_of_ble_eq_true rfl) ⟨Nat.zero_le _, Nat.zero_le _⟩ dX11_clash_94 (fun b3 H locs w => ?_)
          refine lv_iload_n S.1 S.2.1 dX11_clash_97 rfl (lv_at hl 1 rfl) ?_
          obtain ⟨q7, e8, h⟩ := og_b h
          refine z_callSr S K w hA (c_X11_manyOf l D cs ad F A T x2 q7 e8) (cw_X11_193 S.2.2.2.2 ⟨Nat.le_of_ble_eq_true rfl, Nat.le_of_ble_eq_true rfl⟩) rfl hl.1 rfl (Nat.le_of_ble_eq_true rfl) ⟨Nat.zero_le _, Nat.zero_le _⟩ dX11_clash_98 (fun b6 H locs w => ?_)
          refine lv_icmp_ge (tgt := 114) S.1 S.2.1 dX11_clash_101 (by decide) (fun c9 => ?_) (fun c9 => ?_)
          · have h := og_t c9 h
            refine lv_iinc (v := (x3 + (1 : Int32))) (lv' := [(3, .int (x3 + (1 : Int32))), (0, .ref (ad 0)), (2, .int x2)]) S.1 S.2.1 dX11_clash_114 hl (k := 2) rfl rfl (by decide) rfl (fun ls hl => ?_)
            refine lv_goto (tgt := 75) S.1 S.2.1 dX11_clash_117 (by decide) ?_
            exact ih75 _ _ h _ _ _ (lv_sub hl [1, 2, 0] rfl) w
          · have h := og_f c9 h
            exact j104 _ _ h _ _ _ (lv_sub hl [0, 1, 2] rfl) w
  have j19 : ∀ (n19 : Nat) (x2 x3 : Int32), f_X11_clash_19 F A T n19 x2 x3 = some q → ∀ (H : Heap) (locs : List Loc) (ls : Array Slot), lv_has ls 5 [(0, .ref (ad 0)), (2, .int x2), (3, .int x3)] → ZW D A0 s.heap (MW cs ad F A T) H locs → W p l e rm_X11_clash s m ([.ref (ad 0), .int a0] : List Value).toArray below meth c H locs 0 0 (zQi (MW cs ad) D A0 below ([.ref (ad 0), .int a0] : List Value) s ((q, F, A, T) : Int32 × ZS) True) (F0 m 19 ls []) := by
    intro n19
    induction n19 with
    | zero =>
      intro x2 x3 h H locs ls hl w
      have h : (none : Option Int32) = some q := h
      cases h
    | succ n19 ih19 =>
      intro x2 x3 h H locs ls hl w
      rw [f_X11_clash_19_s] at h
      have j32 : ∀ (n32 : Nat) (x2 x3 x4 : Int32), f_X11_clash_32 F A T (f_X11_clash_19 F A T n19) n32 x2 x3 x4 = some q → ∀ (H : Heap) (locs : List Loc) (ls : Array Slot), lv_has ls 5 [(0, .ref (ad 0)), (2, .int x2), (3, .int x3), (4, .int x4)] → ZW D A0 s.heap (MW cs ad F A T) H locs → W p l e rm_X11_clash s m ([.ref (ad 0), .int a0] : List Value).toArray below meth c H locs 0 0 (zQi (MW cs ad) D A0 below ([.ref (ad 0), .int a0] : List Value) s ((q, F, A, T) : Int32 × ZS) True) (F0 m 32 ls []) := by
        intro n32
        induction n32 with
        | zero =>
          intro x2 x3 x4 h H locs ls hl w
          have h : (none : Option Int32) = some q := h
          cases h
        | succ n32 ih32 =>
          intro x2 x3 x4 h H locs ls hl w
          rw [f_X11_clash_32_s] at h
          have j54 : ∀ (x3 x4 y0 y1 : Int32), f_X11_clash_54 F A T (f_X11_clash_19 F A T n19) (f_X11_clash_32 F A T (f_X11_clash_19 F A T n19) n32) x3 x4 y0 y1 = some q → ∀ (H : Heap) (locs : List Loc) (ls : Array Slot), lv_has ls 5 [(0, .ref (ad 0)), (3, .int x3), (4, .int x4)] → ZW D A0 s.heap (MW cs ad F A T) H locs → W p l e rm_X11_clash s m ([.ref (ad 0), .int a0] : List Value).toArray below meth c H locs 0 0 (zQi (MW cs ad) D A0 below ([.ref (ad 0), .int a0] : List Value) s ((q, F, A, T) : Int32 × ZS) True) (F0 m 54 ls [.int y0, .int y1]) := by
            intro x3 x4 y0 y1 h H locs ls hl w
            unfold f_X11_clash_54 at h
            refine lv_iadd S.1 S.2.1 dX11_clash_54 ?_
            refine lv_istore_n (lv' := [(2, .int (y1 + y0)), (0, .ref (ad 0)), (3, .int x3), (4, .int x4)]) S.1 S.2.1 dX11_clash_55 rfl hl (by decide) rfl (fun ls hl => ?_)
            refine lv_iinc (v := (x4 + (1 : Int32))) (lv' := [(4, .int (x4 + (1 : Int32))), (2, .int (y1 + y0)), (0, .ref (ad 0)), (3, .int x3)]) S.1 S.2.1 dX11_clash_56 hl (k := 3) rfl rfl (by decide) rfl (fun ls hl => ?_)
            refine lv_goto (tgt := 32) S.1 S.2.1 dX11_clash_59 (by decide) ?_
            exact ih32 _ _ _ h _ _ _ (lv_sub hl [2, 1, 3, 0] rfl) w
          refine lv_iload S.1 S.2.1 dX11_clash_32 (lv_at hl 3 rfl) ?_
          refine lv_iload_n S.1 S.2.1 dX11_clash_34 rfl (lv_at hl 2 rfl) ?_
          refine lv_icmp_ge (tgt := 62) S.1 S.2.1 dX11_clash_35 (by decide) (fun c15 => ?_) (fun c15 => ?_)
          · have h := og_t c15 h
            refine lv_iinc (v := (x3 + (1 : Int32))) (lv' := [(3, .int (x3 + (1 : Int32))), (0, .ref (ad 0)), (2, .int x2), (4, .int x4)]) S.1 S.2.1 dX11_clash_62 hl (k := 2) rfl rfl (by decide) rfl (fun ls hl => ?_)
            refine lv_goto (tgt := 19) S.1 S.2.1 dX11_clash_65 (by decide) ?_
            exact ih19 _ _ h _ _ _ (lv_sub hl [1, 2, 0] rfl) w
          · have h := og_f c15 h
            refine lv_iload_n S.1 S.2.1 dX11_clash_38 rfl (lv_at hl 1 rfl) ?_
            refine lv_aload_n S.1 S.2.1 dX11_clash_39 rfl (lv_at hl 0 rfl) ?_
            refine lv_iload_n S.1 S.2.1 dX11_clash_40 rfl (lv_at hl 2 rfl) ?_
            refine lv_iload S.1 S.2.1 dX11_clash_41 (lv_at hl 3 rfl) ?_
            obtain ⟨q17, e18, h⟩ := og_b h
            refine z_callVr S K w hA (c_X11_clashes l D cs ad F A T x3 x4 q17 e18) (cw_X11_189 S.2.2.2.2 ⟨Nat.le_of_ble_eq_true rfl, Nat.le_of_ble_eq_true rfl⟩) (z_recv K w 0 11 rfl rfl) rfl hl.1 rfl (Nat.le_of_ble_eq_true rfl) ⟨Nat.zero_le _, Nat.zero_le _⟩ dX11_clash_43 (fun b16 H locs w => ?_)
            refine lv_if_eq (tgt := 53) S.1 S.2.1 dX11_clash_46 (by decide) (fun c19 => ?_) (fun c19 => ?_)
            · have h := og_t c19 h
              refine lv_iconst (v := 0) S.1 S.2.1 dX11_clash_53 (by decide) ?_
              exact j54 _ _ _ _ h _ _ _ (lv_sub hl [0, 2, 3] rfl) w
            · have h := og_f c19 h
              refine lv_iconst (v := 1) S.1 S.2.1 dX11_clash_49 (by decide) ?_
              refine lv_goto (tgt := 54) S.1 S.2.1 dX11_clash_50 (by decide) ?_
              exact j54 _ _ _ _ h _ _ _ (lv_sub hl [0, 2, 3] rfl) w
      refine lv_iload_n S.1 S.2.1 dX11_clash_19 rfl (lv_at hl 2 rfl) ?_
      refine lv_aload_n S.1 S.2.1 dX11_clash_20 rfl (lv_at hl 0 rfl) ?_
      refine gM_0_9 S K w w737 dX11_clash_21 ?_
      refine lv_iconst (v := 0) S.1 S.2.1 dX11_clash_24 (by decide) ?_
      refine aM_8 S K w gk_0_2 dX11_clash_25 ?_
      refine lv_icmp_ge (tgt := 68) S.1 S.2.1 dX11_clash_26 (by decide) (fun c14 => ?_) (fun c14 => ?_)
      · have h := og_t c14 h
        refine lv_iload_n S.1 S.2.1 dX11_clash_68 rfl (lv_at hl 1 rfl) ?_
        exact z_reti S w hr hlk dX11_clash_69 trivial (by rw [← Option.some.inj h])
      · have h := og_f c14 h
        refine lv_iconst (v := 0) S.1 S.2.1 dX11_clash_29 (by decide) ?_
        refine lv_istore (lv' := [(4, .int (0 : Int32)), (0, .ref (ad 0)), (2, .int x2), (3, .int x3)]) S.1 S.2.1 dX11_clash_30 hl (by decide) rfl (fun ls hl => ?_)
        exact j32 1000 _ _ _ h _ _ _ (lv_sub hl [1, 2, 3, 0] rfl) w
  refine lv_iload_n S.1 S.2.1 dX11_clash_0 rfl (lv_at hl 1 rfl) ?_
  refine lv_iconst (v := 0) S.1 S.2.1 dX11_clash_1 (by decide) ?_
  refine lv_iconst (v := 1) S.1 S.2.1 dX11_clash_2 (by decide) ?_
  refine z_callSr S K w hA (c_X11_in l D cs ad F A T a0 (0 : Int32) (1 : Int32) (f_X11_in a0 (0 : Int32) (1 : Int32)) rfl) (cw_X11_72 S.2.2.2.2 ⟨Nat.le_of_ble_eq_true rfl, Nat.le_of_ble_eq_true rfl⟩) rfl hl.1 rfl (Nat.le_of_ble_eq_true rfl) ⟨Nat.zero_le _, Nat.zero_le _⟩ dX11_clash_3 (fun b20 H locs w => ?_)
  refine lv_if_ne (tgt := 11) S.1 S.2.1 dX11_clash_6 (by decide) (fun c21 => ?_) (fun c21 => ?_)
  · have h := og_f c21 h
    refine lv_iload_n S.1 S.2.1 dX11_clash_11 rfl (lv_at hl 1 rfl) ?_
    refine lv_if_ne (tgt := 70) S.1 S.2.1 dX11_clash_12 (by decide) (fun c22 => ?_) (fun c22 => ?_)
    · have h := og_f c22 h
      refine lv_bipush (v := -9) S.1 S.2.1 dX11_clash_70 (by decide) ?_
      refine lv_istore_n (lv' := [(2, .int (-9 : Int32)), (0, .ref (ad 0)), (1, .int a0)]) S.1 S.2.1 dX11_clash_72 rfl hl (by decide) rfl (fun ls hl => ?_)
      refine lv_iconst (v := 0) S.1 S.2.1 dX11_clash_73 (by decide) ?_
      refine lv_istore_n (lv' := [(3, .int (0 : Int32)), (2, .int (-9 : Int32)), (0, .ref (ad 0)), (1, .int a0)]) S.1 S.2.1 dX11_clash_74 rfl hl (by decide) rfl (fun ls hl => ?_)
      exact j75 1000 _ _ h _ _ _ (lv_sub hl [2, 1, 0] rfl) w
    · have h := og_t c22 h
      refine lv_iconst (v := 0) S.1 S.2.1 dX11_clash_15 (by decide) ?_
      refine lv_istore_n (lv' := [(2, .int (0 : Int32)), (0, .ref (ad 0)), (1, .int a0)]) S.1 S.2.1 dX11_clash_16 rfl hl (by decide) rfl (fun ls hl => ?_)
      refine lv_iconst (v := 0) S.1 S.2.1 dX11_clash_17 (by decide) ?_
      refine lv_istore_n (lv' := [(3, .int (0 : Int32)), (2, .int (0 : Int32)), (0, .ref (ad 0)), (1, .int a0)]) S.1 S.2.1 dX11_clash_18 rfl hl (by decide) rfl (fun ls hl => ?_)
      exact j19 1000 _ _ h _ _ _ (lv_sub hl [2, 1, 0] rfl) w
  · have h := og_t c21 h
    refine lv_iconst (v := -1) S.1 S.2.1 dX11_clash_9 (by decide) ?_
    exact z_reti S w hr hlk dX11_clash_10 trivial (by rw [← Option.some.inj h])
set_option maxHeartbeats 4000000 in
set_option maxRecDepth 100000 in
theorem c_X11_bandHeld (l : Launch) (D : va_G) (cs : Nat → ClassId) (ad : Nat → Nat) (F : ZF) (A : ZA) (T : Int64) (a0 a1 : Int32) (q : Int32) (h : f_X11_bandHeld a0 a1 F A T = some q) : zMi l D cs (MW cs ad) yX11_bandHeld cX11_bandHeld 5 (some .int) rm_X11_bandHeld ([.ref (ad 0), .int a0, .int a1] : List Value) F A T ((q, F, A, T) : Int32 × ZS) True := by
  refine z_enteri (by decide) (Nat.le_of_ble_eq_true rfl) ?_
  intro p e s m below meth c A0 ls S K w hA hr hlk hl
  have S : CallFix p m c cX11_bandHeld 5 s ([.ref (ad 0), .int a0, .int a1] : List Value).toArray zWs RX11 := S
  have hl : lv_has ls 5 [(0, .ref (ad 0)), (1, .int a0), (2, .int a1)] := hl
  unfold f_X11_bandHeld at h
  have j14 : ∀ (x1 x2 y0 : Int32), f_X11_bandHeld_14 F A T x1 x2 y0 = some q → ∀ (H : Heap) (locs : List Loc) (ls : Array Slot), lv_has ls 5 [(0, .ref (ad 0)), (1, .int x1), (2, .int x2)] → ZW D A0 s.heap (MW cs ad F A T) H locs → W p l e rm_X11_bandHeld s m ([.ref (ad 0), .int a0, .int a1] : List Value).toArray below meth c H locs 0 0 (zQi (MW cs ad) D A0 below ([.ref (ad 0), .int a0, .int a1] : List Value) s ((q, F, A, T) : Int32 × ZS) True) (F0 m 14 ls [.int y0]) := by
    intro x1 x2 y0 h H locs ls hl w
    unfold f_X11_bandHeld_14 at h
    have j28 : ∀ (x1 x3 y0 y1 : Int32), f_X11_bandHeld_28 F A T x1 x3 y0 y1 = some q → ∀ (H : Heap) (locs : List Loc) (ls : Array Slot), lv_has ls 5 [(0, .ref (ad 0)), (1, .int x1), (3, .int x3)] → ZW D A0 s.heap (MW cs ad F A T) H locs → W p l e rm_X11_bandHeld s m ([.ref (ad 0), .int a0, .int a1] : List Value).toArray below meth c H locs 0 0 (zQi (MW cs ad) D A0 below ([.ref (ad 0), .int a0, .int a1] : List Value) s ((q, F, A, T) : Int32 × ZS) True) (F0 m 28 ls [.int y0, .int y1]) := by
      intro x1 x3 y0 y1 h H locs ls hl w
      unfold f_X11_bandHeld_28 at h
      have j52 : ∀ (x4 y0 : Int32), f_X11_bandHeld_52 F A T x4 y0 = some q → ∀ (H : Heap) (locs : List Loc) (ls : Array Slot), lv_has ls 5 [(4, .int x4)] → ZW D A0 s.heap (MW cs ad F A T) H locs → W p l e rm_X11_bandHeld s m ([.ref (ad 0), .int a0, .int a1] : List Value).toArray below meth c H locs 0 0 (zQi (MW cs ad) D A0 below ([.ref (ad 0), .int a0, .int a1] : List Value) s ((q, F, A, T) : Int32 × ZS) True) (F0 m 52 ls [.int y0]) := by
        intro x4 y0 h H locs ls hl w
        unfold f_X11_bandHeld_52 at h
        refine lv_iconst (v := 3) S.1 S.2.1 dX11_bandHeld_52 (by decide) ?_
        refine lv_iload S.1 S.2.1 dX11_bandHeld_53 (lv_at hl 0 rfl) ?_
        refine lv_imul S.1 S.2.1 dX11_bandHeld_55 ?_
        refine lv_iadd S.1 S.2.1 dX11_bandHeld_56 ?_
        exact z_reti S w hr hlk dX11_bandHeld_57 trivial (by rw [← Option.some.inj h])
      refine lv_isub S.1 S.2.1 dX11_bandHeld_28 ?_
      refine lv_istore (lv' := [(4, .int (y1 - y0)), (0, .ref (ad 0)), (1, .int x1), (3, .int x3)]) S.1 S.2.1 dX11_bandHeld_29 hl (by decide) rfl (fun ls hl => ?_)
      refine lv_iload_n S.1 S.2.1 dX11_bandHeld_31 rfl (lv_at hl 3 rfl) ?_
      refine lv_if_eq (tgt := 46) S.1 S.2.1 dX11_bandHeld_32 (by decide) (fun c5 => ?_) (fun c5 => ?_)
      · have h := og_t c5 h
        refine lv_aload_n S.1 S.2.1 dX11_bandHeld_46 rfl (lv_at hl 1 rfl) ?_
        refine gM_0_26 S K w w754 dX11_bandHeld_47 ?_
        refine lv_iload_n S.1 S.2.1 dX11_bandHeld_50 rfl (lv_at hl 2 rfl) ?_
        obtain ⟨g6, h⟩ := og_g h
        refine aM_17 S K w g6 dX11_bandHeld_51 ?_
        exact j52 _ _ h _ _ _ (lv_sub hl [0] rfl) w
      · have h := og_f c5 h
        refine lv_aload_n S.1 S.2.1 dX11_bandHeld_35 rfl (lv_at hl 1 rfl) ?_
        refine gM_0_26 S K w w754 dX11_bandHeld_36 ?_
        refine lv_iload_n S.1 S.2.1 dX11_bandHeld_39 rfl (lv_at hl 2 rfl) ?_
        obtain ⟨g7, h⟩ := og_g h
        refine aM_17 S K w g7 dX11_bandHeld_40 ?_
        refine lv_iconst (v := 2) S.1 S.2.1 dX11_bandHeld_41 (by decide) ?_
        refine lv_idiv S.1 S.2.1 dX11_bandHeld_42 nz_2 ?_
        refine lv_goto (tgt := 52) S.1 S.2.1 dX11_bandHeld_43 (by decide) ?_
        exact j52 _ _ h _ _ _ (lv_sub hl [0] rfl) w
    refine lv_istore_n (lv' := [(3, .int y0), (0, .ref (ad 0)), (1, .int x1), (2, .int x2)]) S.1 S.2.1 dX11_bandHeld_14 rfl hl (by decide) rfl (fun ls hl => ?_)
    refine lv_iload_n S.1 S.2.1 dX11_bandHeld_15 rfl (lv_at hl 3 rfl) ?_
    obtain ⟨q2, e3, h⟩ := og_b h
    refine z_callSr S K w hA (c_X11_manyOf l D cs ad F A T x2 q2 e3) (cw_X11_193 S.2.2.2.2 ⟨Nat.le_of_ble_eq_true rfl, Nat.le_of_ble_eq_true rfl⟩) rfl hl.1 rfl (Nat.le_of_ble_eq_true rfl) ⟨Nat.zero_le _, Nat.zero_le _⟩ dX11_bandHeld_16 (fun b1 H locs w => ?_)
    refine lv_iload_n S.1 S.2.1 dX11_bandHeld_19 rfl (lv_at hl 0 rfl) ?_
    refine lv_if_eq (tgt := 27) S.1 S.2.1 dX11_bandHeld_20 (by decide) (fun c4 => ?_) (fun c4 => ?_)
    · have h := og_t c4 h
      refine lv_iconst (v := 0) S.1 S.2.1 dX11_bandHeld_27 (by decide) ?_
      exact j28 _ _ _ _ h _ _ _ (lv_sub hl [1, 2, 0] rfl) w
    · have h := og_f c4 h
      refine lv_iconst (v := 1) S.1 S.2.1 dX11_bandHeld_23 (by decide) ?_
      refine lv_goto (tgt := 28) S.1 S.2.1 dX11_bandHeld_24 (by decide) ?_
      exact j28 _ _ _ _ h _ _ _ (lv_sub hl [1, 2, 0] rfl) w
  refine lv_iload_n S.1 S.2.1 dX11_bandHeld_0 rfl (lv_at hl 2 rfl) ?_
  refine lv_iload_n S.1 S.2.1 dX11_bandHeld_1 rfl (lv_at hl 1 rfl) ?_
  refine lv_ishr S.1 S.2.1 dX11_bandHeld_2 ?_
  refine lv_iconst (v := 1) S.1 S.2.1 dX11_bandHeld_3 (by decide) ?_
  refine lv_iand S.1 S.2.1 dX11_bandHeld_4 ?_
  refine lv_iconst (v := 1) S.1 S.2.1 dX11_bandHeld_5 (by decide) ?_
  refine lv_icmp_ne (tgt := 13) S.1 S.2.1 dX11_bandHeld_6 (by decide) (fun c8 => ?_) (fun c8 => ?_)
  · have h := og_f c8 h
    refine lv_iconst (v := 0) S.1 S.2.1 dX11_bandHeld_13 (by decide) ?_
    exact j14 _ _ _ h _ _ _ (lv_sub hl [0, 1, 2] rfl) w
  · have h := og_t c8 h
    refine lv_iconst (v := 1) S.1 S.2.1 dX11_bandHeld_9 (by decide) ?_
    refine lv_goto (tgt := 14) S.1 S.2.1 dX11_bandHeld_10 (by decide) ?_
    exact j14 _ _ _ h _ _ _ (lv_sub hl [0, 1, 2] rfl) w
set_option maxHeartbeats 4000000 in
set_option maxRecDepth 100000 in
theorem c_X11_bandDays (l : Launch) (D : va_G) (cs : Nat → ClassId) (ad : Nat → Nat) (F : ZF) (A : ZA) (T : Int64) (a0 a1 : Int32) (q : Int32) (h : f_X11_bandDays a0 a1 F A T = some q) : zMi l D cs (MW cs ad) yX11_bandDays cX11_bandDays 5 (some .int) rm_X11_bandDays ([.ref (ad 0), .int a0, .int a1] : List Value) F A T ((q, F, A, T) : Int32 × ZS) True := by
  refine z_enteri (by decide) (Nat.le_of_ble_eq_true rfl) ?_
  intro p e s m below meth c A0 ls S K w hA hr hlk hl
  have S : CallFix p m c cX11_bandDays 5 s ([.ref (ad 0), .int a0, .int a1] : List Value).toArray zWs RX11 := S
  have hl : lv_has ls 5 [(0, .ref (ad 0)), (1, .int a0), (2, .int a1)] := hl
  unfold f_X11_bandDays at h
  have j5 : ∀ (n5 : Nat) (x1 x2 x3 x4 : Int32), f_X11_bandDays_5 F A T n5 x1 x2 x3 x4 = some q → ∀ (H : Heap) (locs : List Loc) (ls : Array Slot), lv_has ls 5 [(0, .ref (ad 0)), (1, .int x1), (2, .int x2), (3, .int x3), (4, .int x4)] → ZW D A0 s.heap (MW cs ad F A T) H locs → W p l e rm_X11_bandDays s m ([.ref (ad 0), .int a0, .int a1] : List Value).toArray below meth c H locs 0 0 (zQi (MW cs ad) D A0 below ([.ref (ad 0), .int a0, .int a1] : List Value) s ((q, F, A, T) : Int32 × ZS) True) (F0 m 5 ls []) := by
    intro n5
    induction n5 with
    | zero =>
      intro x1 x2 x3 x4 h H locs ls hl w
      have h : (none : Option Int32) = some q := h
      cases h
    | succ n5 ih5 =>
      intro x1 x2 x3 x4 h H locs ls hl w
      rw [f_X11_bandDays_5_s] at h
      refine lv_iload S.1 S.2.1 dX11_bandDays_5 (lv_at hl 4 rfl) ?_
      refine lv_aload_n S.1 S.2.1 dX11_bandDays_7 rfl (lv_at hl 0 rfl) ?_
      refine gM_0_3 S K w w731 dX11_bandDays_8 ?_
      refine lv_iconst (v := 0) S.1 S.2.1 dX11_bandDays_11 (by decide) ?_
      refine aM_2 S K w gk_0_2 dX11_bandDays_12 ?_
      refine lv_icmp_ge (tgt := 32) S.1 S.2.1 dX11_bandDays_13 (by decide) (fun c1 => ?_) (fun c1 => ?_)
      · have h := og_t c1 h
        refine lv_iload_n S.1 S.2.1 dX11_bandDays_32 rfl (lv_at hl 3 rfl) ?_
        refine lv_if_ne (tgt := 40) S.1 S.2.1 dX11_bandDays_33 (by decide) (fun c2 => ?_) (fun c2 => ?_)
        · have h := og_f c2 h
          refine lv_aload_n S.1 S.2.1 dX11_bandDays_40 rfl (lv_at hl 0 rfl) ?_
          refine gM_0_24 S K w w752 dX11_bandDays_41 ?_
          refine lv_iconst (v := 2) S.1 S.2.1 dX11_bandDays_44 (by decide) ?_
          refine aM_15 S K w gk_2_102 dX11_bandDays_45 ?_
          refine lv_aload_n S.1 S.2.1 dX11_bandDays_46 rfl (lv_at hl 0 rfl) ?_
          refine lv_iload_n S.1 S.2.1 dX11_bandDays_47 rfl (lv_at hl 1 rfl) ?_
          refine lv_iload_n S.1 S.2.1 dX11_bandDays_48 rfl (lv_at hl 2 rfl) ?_
          obtain ⟨q4, e5, h⟩ := og_b h
          refine z_callVr S K w hA (c_X11_bandHeld l D cs ad F A T x1 x2 q4 e5) (cw_X11_199 S.2.2.2.2 ⟨Nat.le_of_ble_eq_true rfl, Nat.le_of_ble_eq_true rfl⟩) (z_recv K w 0 11 rfl rfl) rfl hl.1 rfl (Nat.le_of_ble_eq_true rfl) ⟨Nat.zero_le _, Nat.zero_le _⟩ dX11_bandDays_49 (fun b3 H locs w => ?_)
          refine lv_imul S.1 S.2.1 dX11_bandDays_52 ?_
          refine lv_iload_n S.1 S.2.1 dX11_bandDays_53 rfl (lv_at hl 3 rfl) ?_
          obtain ⟨g6, h⟩ := og_d h
          refine lv_idiv S.1 S.2.1 dX11_bandDays_54 g6 ?_
          exact z_reti S w hr hlk dX11_bandDays_55 trivial (by rw [← Option.some.inj h])
        · have h := og_t c2 h
          refine lv_iconst (v := 0) S.1 S.2.1 dX11_bandDays_36 (by decide) ?_
          refine lv_goto (tgt := 55) S.1 S.2.1 dX11_bandDays_37 (by decide) ?_
          exact z_reti S w hr hlk dX11_bandDays_55 trivial (by rw [← Option.some.inj h])
      · have h := og_f c1 h
        refine lv_iload_n S.1 S.2.1 dX11_bandDays_16 rfl (lv_at hl 3 rfl) ?_
        refine lv_aload_n S.1 S.2.1 dX11_bandDays_17 rfl (lv_at hl 0 rfl) ?_
        refine lv_iload S.1 S.2.1 dX11_bandDays_18 (lv_at hl 4 rfl) ?_
        refine lv_iload_n S.1 S.2.1 dX11_bandDays_20 rfl (lv_at hl 2 rfl) ?_
        obtain ⟨q8, e9, h⟩ := og_b h
        refine z_callVr S K w hA (c_X11_bandHeld l D cs ad F A T x4 x2 q8 e9) (cw_X11_199 S.2.2.2.2 ⟨Nat.le_of_ble_eq_true rfl, Nat.le_of_ble_eq_true rfl⟩) (z_recv K w 0 11 rfl rfl) rfl hl.1 rfl (Nat.le_of_ble_eq_true rfl) ⟨Nat.zero_le _, Nat.zero_le _⟩ dX11_bandDays_21 (fun b7 H locs w => ?_)
        refine lv_iadd S.1 S.2.1 dX11_bandDays_24 ?_
        refine lv_istore_n (lv' := [(3, .int (x3 + q8)), (0, .ref (ad 0)), (1, .int x1), (2, .int x2), (4, .int x4)]) S.1 S.2.1 dX11_bandDays_25 rfl hl (by decide) rfl (fun ls hl => ?_)
        refine lv_iinc (v := (x4 + (1 : Int32))) (lv' := [(4, .int (x4 + (1 : Int32))), (3, .int (x3 + q8)), (0, .ref (ad 0)), (1, .int x1), (2, .int x2)]) S.1 S.2.1 dX11_bandDays_26 hl (k := 4) rfl rfl (by decide) rfl (fun ls hl => ?_)
        refine lv_goto (tgt := 5) S.1 S.2.1 dX11_bandDays_29 (by decide) ?_
        exact ih5 _ _ _ _ h _ _ _ (lv_sub hl [2, 3, 4, 1, 0] rfl) w
  refine lv_iconst (v := 0) S.1 S.2.1 dX11_bandDays_0 (by decide) ?_
  refine lv_istore_n (lv' := [(3, .int (0 : Int32)), (0, .ref (ad 0)), (1, .int a0), (2, .int a1)]) S.1 S.2.1 dX11_bandDays_1 rfl hl (by decide) rfl (fun ls hl => ?_)
  refine lv_iconst (v := 0) S.1 S.2.1 dX11_bandDays_2 (by decide) ?_
  refine lv_istore (lv' := [(4, .int (0 : Int32)), (3, .int (0 : Int32)), (0, .ref (ad 0)), (1, .int a0), (2, .int a1)]) S.1 S.2.1 dX11_bandDays_3 hl (by decide) rfl (fun ls hl => ?_)
  exact j5 1000 _ _ _ _ h _ _ _ (lv_sub hl [2, 3, 4, 1, 0] rfl) w
set_option maxHeartbeats 4000000 in
set_option maxRecDepth 100000 in
theorem c_X11_firstWhoGains (l : Launch) (D : va_G) (cs : Nat → ClassId) (ad : Nat → Nat) (F : ZF) (A : ZA) (T : Int64) (a0 : Int32) (q : Int32) (h : f_X11_firstWhoGains a0 F A T = some q) : zMi l D cs (MW cs ad) yX11_firstWhoGains cX11_firstWhoGains 3 (some .int) rm_X11_firstWhoGains ([.ref (ad 0), .int a0] : List Value) F A T ((q, F, A, T) : Int32 × ZS) True := by
  refine z_enteri (by decide) (Nat.le_of_ble_eq_true rfl) ?_
  intro p e s m below meth c A0 ls S K w hA hr hlk hl
  have S : CallFix p m c cX11_firstWhoGains 3 s ([.ref (ad 0), .int a0] : List Value).toArray zWs RX11 := S
  have hl : lv_has ls 3 [(0, .ref (ad 0)), (1, .int a0)] := hl
  unfold f_X11_firstWhoGains at h
  have j2 : ∀ (n2 : Nat) (x1 x2 : Int32), f_X11_firstWhoGains_2 F A T n2 x1 x2 = some q → ∀ (H : Heap) (locs : List Loc) (ls : Array Slot), lv_has ls 3 [(0, .ref (ad 0)), (1, .int x1), (2, .int x2)] → ZW D A0 s.heap (MW cs ad F A T) H locs → W p l e rm_X11_firstWhoGains s m ([.ref (ad 0), .int a0] : List Value).toArray below meth c H locs 0 0 (zQi (MW cs ad) D A0 below ([.ref (ad 0), .int a0] : List Value) s ((q, F, A, T) : Int32 × ZS) True) (F0 m 2 ls []) := by
    intro n2
    induction n2 with
    | zero =>
      intro x1 x2 h H locs ls hl w
      have h : (none : Option Int32) = some q := h
      cases h
    | succ n2 ih2 =>
      intro x1 x2 h H locs ls hl w
      rw [f_X11_firstWhoGains_2_s] at h
      refine lv_iload_n S.1 S.2.1 dX11_firstWhoGains_2 rfl (lv_at hl 2 rfl) ?_
      refine lv_aload_n S.1 S.2.1 dX11_firstWhoGains_3 rfl (lv_at hl 0 rfl) ?_
      refine gM_0_3 S K w w731 dX11_firstWhoGains_4 ?_
      refine lv_iconst (v := 0) S.1 S.2.1 dX11_firstWhoGains_7 (by decide) ?_
      refine aM_2 S K w gk_0_2 dX11_firstWhoGains_8 ?_
      refine lv_icmp_ge (tgt := 39) S.1 S.2.1 dX11_firstWhoGains_9 (by decide) (fun c1 => ?_) (fun c1 => ?_)
      · have h := og_t c1 h
        refine lv_bipush (v := -9) S.1 S.2.1 dX11_firstWhoGains_39 (by decide) ?_
        exact z_reti S w hr hlk dX11_firstWhoGains_41 trivial (by rw [← Option.some.inj h])
      · have h := og_f c1 h
        refine lv_aload_n S.1 S.2.1 dX11_firstWhoGains_12 rfl (lv_at hl 0 rfl) ?_
        refine lv_iload_n S.1 S.2.1 dX11_firstWhoGains_13 rfl (lv_at hl 2 rfl) ?_
        refine lv_iload_n S.1 S.2.1 dX11_firstWhoGains_14 rfl (lv_at hl 1 rfl) ?_
        refine lv_iconst (v := 1) S.1 S.2.1 dX11_firstWhoGains_15 (by decide) ?_
        refine lv_iload_n S.1 S.2.1 dX11_firstWhoGains_16 rfl (lv_at hl 2 rfl) ?_
        refine lv_ishl S.1 S.2.1 dX11_firstWhoGains_17 ?_
        refine lv_ixor S.1 S.2.1 dX11_firstWhoGains_18 ?_
        obtain ⟨q3, e4, h⟩ := og_b h
        refine z_callVr S K w hA (c_X11_bandDays l D cs ad F A T x2 (x1 ^^^ ((1 : Int32) <<< (x2 &&& 31))) q3 e4) (cw_X11_202 S.2.2.2.2 ⟨Nat.le_of_ble_eq_true rfl, Nat.le_of_ble_eq_true rfl⟩) (z_recv K w 0 11 rfl rfl) rfl hl.1 rfl (Nat.le_of_ble_eq_true rfl) ⟨Nat.zero_le _, Nat.zero_le _⟩ dX11_firstWhoGains_19 (fun b2 H locs w => ?_)
        refine lv_aload_n S.1 S.2.1 dX11_firstWhoGains_22 rfl (lv_at hl 0 rfl) ?_
        refine lv_iload_n S.1 S.2.1 dX11_firstWhoGains_23 rfl (lv_at hl 2 rfl) ?_
        refine lv_iload_n S.1 S.2.1 dX11_firstWhoGains_24 rfl (lv_at hl 1 rfl) ?_
        obtain ⟨q6, e7, h⟩ := og_b h
        refine z_callVr S K w hA (c_X11_bandDays l D cs ad F A T x2 x1 q6 e7) (cw_X11_202 S.2.2.2.2 ⟨Nat.le_of_ble_eq_true rfl, Nat.le_of_ble_eq_true rfl⟩) (z_recv K w 0 11 rfl rfl) rfl hl.1 rfl (Nat.le_of_ble_eq_true rfl) ⟨Nat.zero_le _, Nat.zero_le _⟩ dX11_firstWhoGains_25 (fun b5 H locs w => ?_)
        refine lv_icmp_ge (tgt := 33) S.1 S.2.1 dX11_firstWhoGains_28 (by decide) (fun c8 => ?_) (fun c8 => ?_)
        · have h := og_t c8 h
          refine lv_iinc (v := (x2 + (1 : Int32))) (lv' := [(2, .int (x2 + (1 : Int32))), (0, .ref (ad 0)), (1, .int x1)]) S.1 S.2.1 dX11_firstWhoGains_33 hl (k := 2) rfl rfl (by decide) rfl (fun ls hl => ?_)
          refine lv_goto (tgt := 2) S.1 S.2.1 dX11_firstWhoGains_36 (by decide) ?_
          exact ih2 _ _ h _ _ _ (lv_sub hl [1, 2, 0] rfl) w
        · have h := og_f c8 h
          refine lv_iload_n S.1 S.2.1 dX11_firstWhoGains_31 rfl (lv_at hl 2 rfl) ?_
          exact z_reti S w hr hlk dX11_firstWhoGains_32 trivial (by rw [← Option.some.inj h])
  refine lv_iconst (v := 0) S.1 S.2.1 dX11_firstWhoGains_0 (by decide) ?_
  refine lv_istore_n (lv' := [(2, .int (0 : Int32)), (0, .ref (ad 0)), (1, .int a0)]) S.1 S.2.1 dX11_firstWhoGains_1 rfl hl (by decide) rfl (fun ls hl => ?_)
  exact j2 1000 _ _ h _ _ _ (lv_sub hl [1, 2, 0] rfl) w
set_option maxHeartbeats 4000000 in
set_option maxRecDepth 100000 in
theorem c_X11_rests (l : Launch) (D : va_G) (cs : Nat → ClassId) (ad : Nat → Nat) (F : ZF) (A : ZA) (T : Int64) (a0 : Int32) (q : (Int32 × ZS)) (h : f_X11_rests a0 F A T = some q) : zMi l D cs (MW cs ad) yX11_rests cX11_rests 6 (some .int) rm_X11_rests ([.ref (ad 0), .int a0] : List Value) F A T q True := by
  refine z_enteri (by decide) (Nat.le_of_ble_eq_true rfl) ?_
  intro p e s m below meth c A0 ls S K w hA hr hlk hl
  have S : CallFix p m c cX11_rests 6 s ([.ref (ad 0), .int a0] : List Value).toArray zWs RX11 := S
  have hl : lv_has ls 6 [(0, .ref (ad 0)), (1, .int a0)] := hl
  unfold f_X11_rests at h
  have j38 : ∀ (n38 : Nat) (x1 x2 x3 x4 : Int32) (F : ZF) (A : ZA) (T : Int64), f_X11_rests_38 n38 x1 x2 x3 x4 F A T = some q → ∀ (H : Heap) (locs : List Loc) (ls : Array Slot), lv_has ls 6 [(0, .ref (ad 0)), (1, .int x1), (2, .int x2), (3, .int x3), (4, .int x4)] → ZW D A0 s.heap (MW cs ad F A T) H locs → W p l e rm_X11_rests s m ([.ref (ad 0), .int a0] : List Value).toArray below meth c H locs 0 0 (zQi (MW cs ad) D A0 below ([.ref (ad 0), .int a0] : List Value) s q True) (F0 m 38 ls []) := by
    intro n38
    induction n38 with
    | zero =>
      intro x1 x2 x3 x4 F A T h H locs ls hl w
      have h : (none : Option (Int32 × ZS)) = some q := h
      cases h
    | succ n38 ih38 =>
      intro x1 x2 x3 x4 F A T h H locs ls hl w
      rw [f_X11_rests_38_s] at h
      have j59 : ∀ (x1 x2 x3 x4 y0 : Int32) (F : ZF) (A : ZA) (T : Int64), f_X11_rests_59 (f_X11_rests_38 n38) x1 x2 x3 x4 y0 F A T = some q → ∀ (H : Heap) (locs : List Loc) (ls : Array Slot), lv_has ls 6 [(0, .ref (ad 0)), (1, .int x1), (2, .int x2), (3, .int x3), (4, .int x4)] → ZW D A0 s.heap (MW cs ad F A T) H locs → W p l e rm_X11_rests s m ([.ref (ad 0), .int a0] : List Value).toArray below meth c H locs 0 0 (zQi (MW cs ad) D A0 below ([.ref (ad 0), .int a0] : List Value) s q True) (F0 m 59 ls [.int y0]) := by
        intro x1 x2 x3 x4 y0 F A T h H locs ls hl w
        unfold f_X11_rests_59 at h
        have j72 : ∀ (x1 x3 x4 x5 y0 y1 : Int32) (F : ZF) (A : ZA) (T : Int64), f_X11_rests_72 (f_X11_rests_38 n38) x1 x3 x4 x5 y0 y1 F A T = some q → ∀ (H : Heap) (locs : List Loc) (ls : Array Slot), lv_has ls 6 [(0, .ref (ad 0)), (1, .int x1), (3, .int x3), (4, .int x4), (5, .int x5)] → ZW D A0 s.heap (MW cs ad F A T) H locs → W p l e rm_X11_rests s m ([.ref (ad 0), .int a0] : List Value).toArray below meth c H locs 0 0 (zQi (MW cs ad) D A0 below ([.ref (ad 0), .int a0] : List Value) s q True) (F0 m 72 ls [.int y0, .int y1]) := by
          intro x1 x3 x4 x5 y0 y1 F A T h H locs ls hl w
          unfold f_X11_rests_72 at h
          refine lv_iadd S.1 S.2.1 dX11_rests_72 ?_
          refine lv_istore_n (lv' := [(2, .int (y1 + y0)), (0, .ref (ad 0)), (1, .int x1), (3, .int x3), (4, .int x4), (5, .int x5)]) S.1 S.2.1 dX11_rests_73 rfl hl (by decide) rfl (fun ls hl => ?_)
          refine lv_iload S.1 S.2.1 dX11_rests_74 (lv_at hl 5 rfl) ?_
          refine lv_if_eq (tgt := 84) S.1 S.2.1 dX11_rests_76 (by decide) (fun c8 => ?_) (fun c8 => ?_)
          · have h := og_t c8 h
            refine lv_iload_n S.1 S.2.1 dX11_rests_84 rfl (lv_at hl 3 rfl) ?_
            refine lv_istore_n (lv' := [(3, .int x3), (2, .int (y1 + y0)), (0, .ref (ad 0)), (1, .int x1), (4, .int x4), (5, .int x5)]) S.1 S.2.1 dX11_rests_85 rfl hl (by decide) rfl (fun ls hl => ?_)
            refine lv_iinc (v := (x4 + (-1 : Int32))) (lv' := [(4, .int (x4 + (-1 : Int32))), (3, .int x3), (2, .int (y1 + y0)), (0, .ref (ad 0)), (1, .int x1), (5, .int x5)]) S.1 S.2.1 dX11_rests_86 hl (k := 4) rfl rfl (by decide) rfl (fun ls hl => ?_)
            refine lv_goto (tgt := 38) S.1 S.2.1 dX11_rests_89 (by decide) ?_
            exact ih38 _ _ _ _ _ _ _ h _ _ _ (lv_sub hl [3, 4, 2, 1, 0] rfl) w
          · have h := og_f c8 h
            refine lv_iload S.1 S.2.1 dX11_rests_79 (lv_at hl 4 rfl) ?_
            refine lv_goto (tgt := 85) S.1 S.2.1 dX11_rests_81 (by decide) ?_
            refine lv_istore_n (lv' := [(3, .int x4), (2, .int (y1 + y0)), (0, .ref (ad 0)), (1, .int x1), (4, .int x4), (5, .int x5)]) S.1 S.2.1 dX11_rests_85 rfl hl (by decide) rfl (fun ls hl => ?_)
            refine lv_iinc (v := (x4 + (-1 : Int32))) (lv' := [(4, .int (x4 + (-1 : Int32))), (3, .int x4), (2, .int (y1 + y0)), (0, .ref (ad 0)), (1, .int x1), (5, .int x5)]) S.1 S.2.1 dX11_rests_86 hl (k := 4) rfl rfl (by decide) rfl (fun ls hl => ?_)
            refine lv_goto (tgt := 38) S.1 S.2.1 dX11_rests_89 (by decide) ?_
            exact ih38 _ _ _ _ _ _ _ h _ _ _ (lv_sub hl [3, 4, 2, 1, 0] rfl) w
        refine lv_istore (lv' := [(5, .int y0), (0, .ref (ad 0)), (1, .int x1), (2, .int x2), (3, .int x3), (4, .int x4)]) S.1 S.2.1 dX11_rests_59 hl (by decide) rfl (fun ls hl => ?_)
        refine lv_iload_n S.1 S.2.1 dX11_rests_61 rfl (lv_at hl 3 rfl) ?_
        refine lv_iload S.1 S.2.1 dX11_rests_62 (lv_at hl 0 rfl) ?_
        refine lv_if_eq (tgt := 71) S.1 S.2.1 dX11_rests_64 (by decide) (fun c7 => ?_) (fun c7 => ?_)
        · have h := og_t c7 h
          refine lv_iconst (v := 0) S.1 S.2.1 dX11_rests_71 (by decide) ?_
          exact j72 _ _ _ _ _ _ _ _ _ h _ _ _ (lv_sub hl [1, 2, 4, 5, 0] rfl) w
        · have h := og_f c7 h
          refine lv_iconst (v := 1) S.1 S.2.1 dX11_rests_67 (by decide) ?_
          refine lv_goto (tgt := 72) S.1 S.2.1 dX11_rests_68 (by decide) ?_
          exact j72 _ _ _ _ _ _ _ _ _ h _ _ _ (lv_sub hl [1, 2, 4, 5, 0] rfl) w
      refine lv_iload S.1 S.2.1 dX11_rests_38 (lv_at hl 4 rfl) ?_
      refine lv_if_lt (tgt := 92) S.1 S.2.1 dX11_rests_40 (by decide) (fun c1 => ?_) (fun c1 => ?_)
      · have h := og_t c1 h
        refine lv_iload_n S.1 S.2.1 dX11_rests_92 rfl (lv_at hl 1 rfl) ?_
        refine lv_if_ne (tgt := 100) S.1 S.2.1 dX11_rests_93 (by decide) (fun c2 => ?_) (fun c2 => ?_)
        · have h := og_f c2 h
          refine lv_iload_n S.1 S.2.1 dX11_rests_100 rfl (lv_at hl 3 rfl) ?_
          exact z_reti S w hr hlk dX11_rests_101 trivial (Option.some.inj h).symm
        · have h := og_t c2 h
          refine lv_iload_n S.1 S.2.1 dX11_rests_96 rfl (lv_at hl 2 rfl) ?_
          refine lv_goto (tgt := 101) S.1 S.2.1 dX11_rests_97 (by decide) ?_
          exact z_reti S w hr hlk dX11_rests_101 trivial (Option.some.inj h).symm
      · have h := og_f c1 h
        refine lv_aload_n S.1 S.2.1 dX11_rests_43 rfl (lv_at hl 0 rfl) ?_
        refine lv_iload S.1 S.2.1 dX11_rests_44 (lv_at hl 4 rfl) ?_
        obtain ⟨q4, e5, h⟩ := og_b h
        refine z_callVr S K w hA (c_X11_firstWhoGains l D cs ad F A T x4 q4 e5) (cw_X11_205 S.2.2.2.2 ⟨Nat.le_of_ble_eq_true rfl, Nat.le_of_ble_eq_true rfl⟩) (z_recv K w 0 11 rfl rfl) rfl hl.1 rfl (Nat.le_of_ble_eq_true rfl) ⟨Nat.zero_le _, Nat.zero_le _⟩ dX11_rests_46 (fun b3 H locs w => ?_)
        refine lv_bipush (v := -9) S.1 S.2.1 dX11_rests_49 (by decide) ?_
        refine lv_icmp_ne (tgt := 58) S.1 S.2.1 dX11_rests_51 (by decide) (fun c6 => ?_) (fun c6 => ?_)
        · have h := og_f c6 h
          refine lv_iconst (v := 0) S.1 S.2.1 dX11_rests_58 (by decide) ?_
          exact j59 _ _ _ _ _ _ _ _ h _ _ _ (lv_sub hl [0, 1, 2, 3, 4] rfl) w
        · have h := og_t c6 h
          refine lv_iconst (v := 1) S.1 S.2.1 dX11_rests_54 (by decide) ?_
          refine lv_goto (tgt := 59) S.1 S.2.1 dX11_rests_55 (by decide) ?_
          exact j59 _ _ _ _ _ _ _ _ h _ _ _ (lv_sub hl [0, 1, 2, 3, 4] rfl) w
  refine lv_iload_n S.1 S.2.1 dX11_rests_0 rfl (lv_at hl 1 rfl) ?_
  refine lv_iconst (v := 0) S.1 S.2.1 dX11_rests_1 (by decide) ?_
  refine lv_iconst (v := 1) S.1 S.2.1 dX11_rests_2 (by decide) ?_
  refine z_callSr S K w hA (c_X11_in l D cs ad F A T a0 (0 : Int32) (1 : Int32) (f_X11_in a0 (0 : Int32) (1 : Int32)) rfl) (cw_X11_72 S.2.2.2.2 ⟨Nat.le_of_ble_eq_true rfl, Nat.le_of_ble_eq_true rfl⟩) rfl hl.1 rfl (Nat.le_of_ble_eq_true rfl) ⟨Nat.zero_le _, Nat.zero_le _⟩ dX11_rests_3 (fun b9 H locs w => ?_)
  refine lv_if_ne (tgt := 11) S.1 S.2.1 dX11_rests_6 (by decide) (fun c10 => ?_) (fun c10 => ?_)
  · have h := og_f c10 h
    refine lv_aload_n S.1 S.2.1 dX11_rests_11 rfl (lv_at hl 0 rfl) ?_
    refine lv_aload_n S.1 S.2.1 dX11_rests_12 rfl (lv_at hl 0 rfl) ?_
    refine gM_0_24 S K w w752 dX11_rests_13 ?_
    refine lv_iconst (v := 0) S.1 S.2.1 dX11_rests_16 (by decide) ?_
    refine aM_15 S K w gk_0_102 dX11_rests_17 ?_
    obtain ⟨q11, e12, h⟩ := og_b h
    refine z_callVv S K w hA (c_X11_hold l D cs ad F A T (A 15 ((0 : Int32)).toNatClampNeg) q11 e12) (cw_X11_147 S.2.2.2.2 ⟨Nat.le_of_ble_eq_true rfl, Nat.le_of_ble_eq_true rfl⟩) (z_recv K w 0 11 rfl rfl) rfl hl.1 rfl (Nat.le_of_ble_eq_true rfl) ⟨Nat.zero_le _, Nat.zero_le _⟩ dX11_rests_18 (fun H locs w => ?_)
    refine lv_iconst (v := 0) S.1 S.2.1 dX11_rests_21 (by decide) ?_
    refine lv_istore_n (lv' := [(2, .int (0 : Int32)), (0, .ref (ad 0)), (1, .int a0)]) S.1 S.2.1 dX11_rests_22 rfl hl (by decide) rfl (fun ls hl => ?_)
    refine lv_bipush (v := -9) S.1 S.2.1 dX11_rests_23 (by decide) ?_
    refine lv_istore_n (lv' := [(3, .int (-9 : Int32)), (2, .int (0 : Int32)), (0, .ref (ad 0)), (1, .int a0)]) S.1 S.2.1 dX11_rests_25 rfl hl (by decide) rfl (fun ls hl => ?_)
    refine lv_iconst (v := 1) S.1 S.2.1 dX11_rests_26 (by decide) ?_
    refine lv_aload_n S.1 S.2.1 dX11_rests_27 rfl (lv_at hl 2 rfl) ?_
    refine gM_0_3 S K w w731 dX11_rests_28 ?_
    refine lv_iconst (v := 0) S.1 S.2.1 dX11_rests_31 (by decide) ?_
    refine aM_2 S K w gk_0_2 dX11_rests_32 ?_
    refine lv_ishl S.1 S.2.1 dX11_rests_33 ?_
    refine lv_iconst (v := 1) S.1 S.2.1 dX11_rests_34 (by decide) ?_
    refine lv_isub S.1 S.2.1 dX11_rests_35 ?_
    refine lv_istore (lv' := [(4, .int (((1 : Int32) <<< ((q11.2.1 2 ((0 : Int32)).toNatClampNeg) &&& 31)) - (1 : Int32))), (3, .int (-9 : Int32)), (2, .int (0 : Int32)), (0, .ref (ad 0)), (1, .int a0)]) S.1 S.2.1 dX11_rests_36 hl (by decide) rfl (fun ls hl => ?_)
    exact j38 1000 _ _ _ _ _ _ _ h _ _ _ (lv_sub hl [3, 4, 2, 1, 0] rfl) w
  · have h := og_t c10 h
    refine lv_iconst (v := -1) S.1 S.2.1 dX11_rests_9 (by decide) ?_
    exact z_reti S w hr hlk dX11_rests_10 trivial (Option.some.inj h).symm
set_option maxHeartbeats 4000000 in
set_option maxRecDepth 100000 in
theorem c_X11_gains (l : Launch) (D : va_G) (cs : Nat → ClassId) (ad : Nat → Nat) (F : ZF) (A : ZA) (T : Int64) (a0 : Int32) (q : (Int32 × ZS)) (h : f_X11_gains a0 F A T = some q) : zMi l D cs (MW cs ad) yX11_gains cX11_gains 2 (some .int) rm_X11_gains ([.ref (ad 0), .int a0] : List Value) F A T q True := by
  refine z_enteri (by decide) (Nat.le_of_ble_eq_true rfl) ?_
  intro p e s m below meth c A0 ls S K w hA hr hlk hl
  have S : CallFix p m c cX11_gains 2 s ([.ref (ad 0), .int a0] : List Value).toArray zWs RX11 := S
  have hl : lv_has ls 2 [(0, .ref (ad 0)), (1, .int a0)] := hl
  unfold f_X11_gains at h
  refine lv_iload_n S.1 S.2.1 dX11_gains_0 rfl (lv_at hl 1 rfl) ?_
  refine lv_iconst (v := 0) S.1 S.2.1 dX11_gains_1 (by decide) ?_
  refine lv_iconst (v := 1) S.1 S.2.1 dX11_gains_2 (by decide) ?_
  refine lv_aload_n S.1 S.2.1 dX11_gains_3 rfl (lv_at hl 0 rfl) ?_
  refine gM_0_3 S K w w731 dX11_gains_4 ?_
  refine lv_iconst (v := 0) S.1 S.2.1 dX11_gains_7 (by decide) ?_
  refine aM_2 S K w gk_0_2 dX11_gains_8 ?_
  refine lv_ishl S.1 S.2.1 dX11_gains_9 ?_
  refine lv_iconst (v := 1) S.1 S.2.1 dX11_gains_10 (by decide) ?_
  refine lv_isub S.1 S.2.1 dX11_gains_11 ?_
  refine z_callSr S K w hA (c_X11_in l D cs ad F A T a0 (0 : Int32) (((1 : Int32) <<< ((A 2 ((0 : Int32)).toNatClampNeg) &&& 31)) - (1 : Int32)) (f_X11_in a0 (0 : Int32) (((1 : Int32) <<< ((A 2 ((0 : Int32)).toNatClampNeg) &&& 31)) - (1 : Int32))) rfl) (cw_X11_72 S.2.2.2.2 ⟨Nat.le_of_ble_eq_true rfl, Nat.le_of_ble_eq_true rfl⟩) rfl hl.1 rfl (Nat.le_of_ble_eq_true rfl) ⟨Nat.zero_le _, Nat.zero_le _⟩ dX11_gains_12 (fun b1 H locs w => ?_)
  refine lv_if_ne (tgt := 20) S.1 S.2.1 dX11_gains_15 (by decide) (fun c2 => ?_) (fun c2 => ?_)
  · have h := og_f c2 h
    refine lv_aload_n S.1 S.2.1 dX11_gains_20 rfl (lv_at hl 0 rfl) ?_
    refine lv_aload_n S.1 S.2.1 dX11_gains_21 rfl (lv_at hl 0 rfl) ?_
    refine gM_0_24 S K w w752 dX11_gains_22 ?_
    refine lv_iconst (v := 0) S.1 S.2.1 dX11_gains_25 (by decide) ?_
    refine aM_15 S K w gk_0_102 dX11_gains_26 ?_
    obtain ⟨q3, e4, h⟩ := og_b h
    refine z_callVv S K w hA (c_X11_hold l D cs ad F A T (A 15 ((0 : Int32)).toNatClampNeg) q3 e4) (cw_X11_147 S.2.2.2.2 ⟨Nat.le_of_ble_eq_true rfl, Nat.le_of_ble_eq_true rfl⟩) (z_recv K w 0 11 rfl rfl) rfl hl.1 rfl (Nat.le_of_ble_eq_true rfl) ⟨Nat.zero_le _, Nat.zero_le _⟩ dX11_gains_27 (fun H locs w => ?_)
    refine lv_aload_n S.1 S.2.1 dX11_gains_30 rfl (lv_at hl 0 rfl) ?_
    refine lv_iload_n S.1 S.2.1 dX11_gains_31 rfl (lv_at hl 1 rfl) ?_
    obtain ⟨q6, e7, h⟩ := og_b h
    refine z_callVr S K w hA (c_X11_firstWhoGains l D cs ad q3.1 q3.2.1 q3.2.2 a0 q6 e7) (cw_X11_205 S.2.2.2.2 ⟨Nat.le_of_ble_eq_true rfl, Nat.le_of_ble_eq_true rfl⟩) (z_recv K w 0 11 rfl rfl) rfl hl.1 rfl (Nat.le_of_ble_eq_true rfl) ⟨Nat.zero_le _, Nat.zero_le _⟩ dX11_gains_32 (fun b5 H locs w => ?_)
    exact z_reti S w hr hlk dX11_gains_35 trivial (Option.some.inj h).symm
  · have h := og_t c2 h
    refine lv_iconst (v := -1) S.1 S.2.1 dX11_gains_18 (by decide) ?_
    exact z_reti S w hr hlk dX11_gains_19 trivial (Option.some.inj h).symm
set_option maxHeartbeats 4000000 in
set_option maxRecDepth 100000 in
theorem c_X11_fitsIn (l : Launch) (D : va_G) (cs : Nat → ClassId) (ad : Nat → Nat) (F : ZF) (A : ZA) (T : Int64) (a0 : Int32) (q : Int32) (h : f_X11_fitsIn a0 F A T = some q) : zMi l D cs (MW cs ad) yX11_fitsIn cX11_fitsIn 4 (some .boolean) rm_X11_fitsIn ([.ref (ad 0), .int a0] : List Value) F A T ((q, F, A, T) : Int32 × ZS) (((q, F, A, T) : Int32 × ZS).1 &&& 1 = ((q, F, A, T) : Int32 × ZS).1) := by
  refine z_enteri (by decide) (Nat.le_of_ble_eq_true rfl) ?_
  intro p e s m below meth c A0 ls S K w hA hr hlk hl
  have S : CallFix p m c cX11_fitsIn 4 s ([.ref (ad 0), .int a0] : List Value).toArray zWs RX11 := S
  have hl : lv_has ls 4 [(0, .ref (ad 0)), (1, .int a0)] := hl
  unfold f_X11_fitsIn at h
  have j4 : ∀ (n4 : Nat) (x1 x2 x3 : Int32), f_X11_fitsIn_4 F A T n4 x1 x2 x3 = some q → ∀ (H : Heap) (locs : List Loc) (ls : Array Slot), lv_has ls 4 [(0, .ref (ad 0)), (1, .int x1), (2, .int x2), (3, .int x3)] → ZW D A0 s.heap (MW cs ad F A T) H locs → W p l e rm_X11_fitsIn s m ([.ref (ad 0), .int a0] : List Value).toArray below meth c H locs 0 0 (zQi (MW cs ad) D A0 below ([.ref (ad 0), .int a0] : List Value) s ((q, F, A, T) : Int32 × ZS) (((q, F, A, T) : Int32 × ZS).1 &&& 1 = ((q, F, A, T) : Int32 × ZS).1)) (F0 m 4 ls []) := by
    intro n4
    induction n4 with
    | zero =>
      intro x1 x2 x3 h H locs ls hl w
      have h : (none : Option Int32) = some q := h
      cases h
    | succ n4 ih4 =>
      intro x1 x2 x3 h H locs ls hl w
      rw [f_X11_fitsIn_4_s] at h
      refine lv_iload_n S.1 S.2.1 dX11_fitsIn_4 rfl (lv_at hl 3 rfl) ?_
      refine lv_aload_n S.1 S.2.1 dX11_fitsIn_5 rfl (lv_at hl 0 rfl) ?_
      refine gM_0_3 S K w w731 dX11_fitsIn_6 ?_
      refine lv_iconst (v := 0) S.1 S.2.1 dX11_fitsIn_9 (by decide) ?_
      refine aM_2 S K w gk_0_2 dX11_fitsIn_10 ?_
      refine lv_icmp_ge (tgt := 40) S.1 S.2.1 dX11_fitsIn_11 (by decide) (fun c1 => ?_) (fun c1 => ?_)
      · have h := og_t c1 h
        refine lv_iload_n S.1 S.2.1 dX11_fitsIn_40 rfl (lv_at hl 2 rfl) ?_
        obtain ⟨g2, h⟩ := og_g h
        exact z_retz S w hr hlk dX11_fitsIn_41 g2 (by rw [← Option.some.inj h])
      · have h := og_f c1 h
        refine lv_iload_n S.1 S.2.1 dX11_fitsIn_14 rfl (lv_at hl 2 rfl) ?_
        refine lv_if_eq (tgt := 32) S.1 S.2.1 dX11_fitsIn_15 (by decide) (fun c3 => ?_) (fun c3 => ?_)
        · have h := og_t c3 h
          refine lv_iconst (v := 0) S.1 S.2.1 dX11_fitsIn_32 (by decide) ?_
          refine lv_istore_n (lv' := [(2, .int (0 : Int32)), (0, .ref (ad 0)), (1, .int x1), (3, .int x3)]) S.1 S.2.1 dX11_fitsIn_33 rfl hl (by decide) rfl (fun ls hl => ?_)
          refine lv_iinc (v := (x3 + (1 : Int32))) (lv' := [(3, .int (x3 + (1 : Int32))), (2, .int (0 : Int32)), (0, .ref (ad 0)), (1, .int x1)]) S.1 S.2.1 dX11_fitsIn_34 hl (k := 3) rfl rfl (by decide) rfl (fun ls hl => ?_)
          refine lv_goto (tgt := 4) S.1 S.2.1 dX11_fitsIn_37 (by decide) ?_
          exact ih4 _ _ _ h _ _ _ (lv_sub hl [2, 3, 1, 0] rfl) w
        · have h := og_f c3 h
          refine lv_aload_n S.1 S.2.1 dX11_fitsIn_18 rfl (lv_at hl 0 rfl) ?_
          refine gM_0_28 S K w w756 dX11_fitsIn_19 ?_
          refine lv_iload_n S.1 S.2.1 dX11_fitsIn_22 rfl (lv_at hl 3 rfl) ?_
          obtain ⟨g4, h⟩ := og_g h
          refine aM_18 S K w g4 dX11_fitsIn_23 ?_
          refine lv_iload_n S.1 S.2.1 dX11_fitsIn_24 rfl (lv_at hl 1 rfl) ?_
          refine lv_icmp_gt (tgt := 32) S.1 S.2.1 dX11_fitsIn_25 (by decide) (fun c5 => ?_) (fun c5 => ?_)
          · have h := og_t c5 h
            refine lv_iconst (v := 0) S.1 S.2.1 dX11_fitsIn_32 (by decide) ?_
            refine lv_istore_n (lv' := [(2, .int (0 : Int32)), (0, .ref (ad 0)), (1, .int x1), (3, .int x3)]) S.1 S.2.1 dX11_fitsIn_33 rfl hl (by decide) rfl (fun ls hl => ?_)
            refine lv_iinc (v := (x3 + (1 : Int32))) (lv' := [(3, .int (x3 + (1 : Int32))), (2, .int (0 : Int32)), (0, .ref (ad 0)), (1, .int x1)]) S.1 S.2.1 dX11_fitsIn_34 hl (k := 3) rfl rfl (by decide) rfl (fun ls hl => ?_)
            refine lv_goto (tgt := 4) S.1 S.2.1 dX11_fitsIn_37 (by decide) ?_
            exact ih4 _ _ _ h _ _ _ (lv_sub hl [2, 3, 1, 0] rfl) w
          · have h := og_f c5 h
            refine lv_iconst (v := 1) S.1 S.2.1 dX11_fitsIn_28 (by decide) ?_
            refine lv_goto (tgt := 33) S.1 S.2.1 dX11_fitsIn_29 (by decide) ?_
            refine lv_istore_n (lv' := [(2, .int (1 : Int32)), (0, .ref (ad 0)), (1, .int x1), (3, .int x3)]) S.1 S.2.1 dX11_fitsIn_33 rfl hl (by decide) rfl (fun ls hl => ?_)
            refine lv_iinc (v := (x3 + (1 : Int32))) (lv' := [(3, .int (x3 + (1 : Int32))), (2, .int (1 : Int32)), (0, .ref (ad 0)), (1, .int x1)]) S.1 S.2.1 dX11_fitsIn_34 hl (k := 3) rfl rfl (by decide) rfl (fun ls hl => ?_)
            refine lv_goto (tgt := 4) S.1 S.2.1 dX11_fitsIn_37 (by decide) ?_
            exact ih4 _ _ _ h _ _ _ (lv_sub hl [2, 3, 1, 0] rfl) w
  refine lv_iconst (v := 1) S.1 S.2.1 dX11_fitsIn_0 (by decide) ?_
  refine lv_istore_n (lv' := [(2, .int (1 : Int32)), (0, .ref (ad 0)), (1, .int a0)]) S.1 S.2.1 dX11_fitsIn_1 rfl hl (by decide) rfl (fun ls hl => ?_)
  refine lv_iconst (v := 0) S.1 S.2.1 dX11_fitsIn_2 (by decide) ?_
  refine lv_istore_n (lv' := [(3, .int (0 : Int32)), (2, .int (1 : Int32)), (0, .ref (ad 0)), (1, .int a0)]) S.1 S.2.1 dX11_fitsIn_3 rfl hl (by decide) rfl (fun ls hl => ?_)
  exact j4 1000 _ _ _ h _ _ _ (lv_sub hl [2, 3, 1, 0] rfl) w
set_option maxHeartbeats 4000000 in
set_option maxRecDepth 100000 in
theorem c_X11_cellsFor (l : Launch) (D : va_G) (cs : Nat → ClassId) (ad : Nat → Nat) (F : ZF) (A : ZA) (T : Int64) (a0 : Int32) (q : (Int32 × ZS)) (h : f_X11_cellsFor a0 F A T = some q) : zMi l D cs (MW cs ad) yX11_cellsFor cX11_cellsFor 3 (some .int) rm_X11_cellsFor ([.ref (ad 0), .int a0] : List Value) F A T q True := by
  refine z_enteri (by decide) (Nat.le_of_ble_eq_true rfl) ?_
  intro p e s m below meth c A0 ls S K w hA hr hlk hl
  have S : CallFix p m c cX11_cellsFor 3 s ([.ref (ad 0), .int a0] : List Value).toArray zWs RX11 := S
  have hl : lv_has ls 3 [(0, .ref (ad 0)), (1, .int a0)] := hl
  unfold f_X11_cellsFor at h
  refine lv_iload_n S.1 S.2.1 dX11_cellsFor_0 rfl (lv_at hl 1 rfl) ?_
  refine lv_iconst (v := 1) S.1 S.2.1 dX11_cellsFor_1 (by decide) ?_
  refine lv_bipush (v := 60) S.1 S.2.1 dX11_cellsFor_2 (by decide) ?_
  refine z_callSr S K w hA (c_X11_in l D cs ad F A T a0 (1 : Int32) (60 : Int32) (f_X11_in a0 (1 : Int32) (60 : Int32)) rfl) (cw_X11_72 S.2.2.2.2 ⟨Nat.le_of_ble_eq_true rfl, Nat.le_of_ble_eq_true rfl⟩) rfl hl.1 rfl (Nat.le_of_ble_eq_true rfl) ⟨Nat.zero_le _, Nat.zero_le _⟩ dX11_cellsFor_4 (fun b1 H locs w => ?_)
  refine lv_if_ne (tgt := 12) S.1 S.2.1 dX11_cellsFor_7 (by decide) (fun c2 => ?_) (fun c2 => ?_)
  · have h := og_f c2 h
    refine lv_aload_n S.1 S.2.1 dX11_cellsFor_12 rfl (lv_at hl 0 rfl) ?_
    obtain ⟨q4, e5, h⟩ := og_b h
    refine z_callVi S K w hA (c_X11_allServe l D cs ad F A T q4 e5) (cw_X11_172 S.2.2.2.2 ⟨Nat.le_of_ble_eq_true rfl, Nat.le_of_ble_eq_true rfl⟩) (z_recv K w 0 11 rfl rfl) rfl hl.1 rfl (Nat.le_of_ble_eq_true rfl) ⟨Nat.zero_le _, Nat.zero_le _⟩ dX11_cellsFor_13 (fun b3 H locs w => ?_)
    refine lv_istore_n (lv' := [(2, .int q4.1), (0, .ref (ad 0)), (1, .int a0)]) S.1 S.2.1 dX11_cellsFor_16 rfl hl (by decide) rfl (fun ls hl => ?_)
    refine lv_aload_n S.1 S.2.1 dX11_cellsFor_17 rfl (lv_at hl 1 rfl) ?_
    refine lv_iload_n S.1 S.2.1 dX11_cellsFor_18 rfl (lv_at hl 2 rfl) ?_
    obtain ⟨q7, e8, h⟩ := og_b h
    refine z_callVr S K w hA (c_X11_fitsIn l D cs ad q4.2.1 q4.2.2.1 q4.2.2.2 a0 q7 e8) (cw_X11_208 S.2.2.2.2 ⟨Nat.le_of_ble_eq_true rfl, Nat.le_of_ble_eq_true rfl⟩) (z_recv K w 0 11 rfl rfl) rfl hl.1 rfl (Nat.le_of_ble_eq_true rfl) ⟨Nat.zero_le _, Nat.zero_le _⟩ dX11_cellsFor_19 (fun b6 H locs w => ?_)
    refine lv_if_eq (tgt := 35) S.1 S.2.1 dX11_cellsFor_22 (by decide) (fun c9 => ?_) (fun c9 => ?_)
    · have h := og_t c9 h
      refine lv_bipush (v := -9) S.1 S.2.1 dX11_cellsFor_35 (by decide) ?_
      exact z_reti S w hr hlk dX11_cellsFor_37 trivial (Option.some.inj h).symm
    · have h := og_f c9 h
      refine lv_iload_n S.1 S.2.1 dX11_cellsFor_25 rfl (lv_at hl 0 rfl) ?_
      refine lv_iload_n S.1 S.2.1 dX11_cellsFor_26 rfl (lv_at hl 2 rfl) ?_
      refine lv_iadd S.1 S.2.1 dX11_cellsFor_27 ?_
      refine lv_iconst (v := 1) S.1 S.2.1 dX11_cellsFor_28 (by decide) ?_
      refine lv_isub S.1 S.2.1 dX11_cellsFor_29 ?_
      refine lv_iload_n S.1 S.2.1 dX11_cellsFor_30 rfl (lv_at hl 2 rfl) ?_
      obtain ⟨g10, h⟩ := og_d h
      refine lv_idiv S.1 S.2.1 dX11_cellsFor_31 g10 ?_
      refine lv_goto (tgt := 37) S.1 S.2.1 dX11_cellsFor_32 (by decide) ?_
      exact z_reti S w hr hlk dX11_cellsFor_37 trivial (Option.some.inj h).symm
  · have h := og_t c2 h
    refine lv_iconst (v := -1) S.1 S.2.1 dX11_cellsFor_10 (by decide) ?_
    exact z_reti S w hr hlk dX11_cellsFor_11 trivial (Option.some.inj h).symm
set_option maxHeartbeats 4000000 in
set_option maxRecDepth 100000 in
theorem c_X11_sits (l : Launch) (D : va_G) (cs : Nat → ClassId) (ad : Nat → Nat) (F : ZF) (A : ZA) (T : Int64) (a0 a1 a2 : Int32) (q : (Int32 × ZS)) (h : f_X11_sits a0 a1 a2 F A T = some q) : zMi l D cs (MW cs ad) yX11_sits cX11_sits 6 (some .int) rm_X11_sits ([.ref (ad 0), .int a0, .int a1, .int a2] : List Value) F A T q True := by
  refine z_enteri (by decide) (Nat.le_of_ble_eq_true rfl) ?_
  intro p e s m below meth c A0 ls S K w hA hr hlk hl
  have S : CallFix p m c cX11_sits 6 s ([.ref (ad 0), .int a0, .int a1, .int a2] : List Value).toArray zWs RX11 := S
  have hl : lv_has ls 6 [(0, .ref (ad 0)), (1, .int a0), (2, .int a1), (3, .int a2)] := hl
  unfold f_X11_sits at h
  have j52 : ∀ (n52 : Nat) (x1 x2 x3 x4 x5 : Int32) (F : ZF) (A : ZA) (T : Int64), f_X11_sits_52 n52 x1 x2 x3 x4 x5 F A T = some q → ∀ (H : Heap) (locs : List Loc) (ls : Array Slot), lv_has ls 6 [(0, .ref (ad 0)), (1, .int x1), (2, .int x2), (3, .int x3), (4, .int x4), (5, .int x5)] → ZW D A0 s.heap (MW cs ad F A T) H locs → W p l e rm_X11_sits s m ([.ref (ad 0), .int a0, .int a1, .int a2] : List Value).toArray below meth c H locs 0 0 (zQi (MW cs ad) D A0 below ([.ref (ad 0), .int a0, .int a1, .int a2] : List Value) s q True) (F0 m 52 ls []) := by
    intro n52
    induction n52 with
    | zero =>
      intro x1 x2 x3 x4 x5 F A T h H locs ls hl w
      have h : (none : Option (Int32 × ZS)) = some q := h
      cases h
    | succ n52 ih52 =>
      intro x1 x2 x3 x4 x5 F A T h H locs ls hl w
      rw [f_X11_sits_52_s] at h
      have j80 : ∀ (n80 : Nat) (x1 x2 x3 x4 x5 : Int32) (F : ZF) (A : ZA) (T : Int64), f_X11_sits_80 n80 x1 x2 x3 x4 x5 F A T = some q → ∀ (H : Heap) (locs : List Loc) (ls : Array Slot), lv_has ls 6 [(0, .ref (ad 0)), (1, .int x1), (2, .int x2), (3, .int x3), (4, .int x4), (5, .int x5)] → ZW D A0 s.heap (MW cs ad F A T) H locs → W p l e rm_X11_sits s m ([.ref (ad 0), .int a0, .int a1, .int a2] : List Value).toArray below meth c H locs 0 0 (zQi (MW cs ad) D A0 below ([.ref (ad 0), .int a0, .int a1, .int a2] : List Value) s q True) (F0 m 80 ls []) := by
        intro n80
        induction n80 with
        | zero =>
          intro x1 x2 x3 x4 x5 F A T h H locs ls hl w
          have h : (none : Option (Int32 × ZS)) = some q := h
          cases h
        | succ n80 ih80 =>
          intro x1 x2 x3 x4 x5 F A T h H locs ls hl w
          rw [f_X11_sits_80_s] at h
          refine lv_iload S.1 S.2.1 dX11_sits_80 (lv_at hl 5 rfl) ?_
          refine lv_iload S.1 S.2.1 dX11_sits_82 (lv_at hl 4 rfl) ?_
          refine lv_aload_n S.1 S.2.1 dX11_sits_84 rfl (lv_at hl 0 rfl) ?_
          refine gM_0_28 S K w w756 dX11_sits_85 ?_
          refine lv_iload_n S.1 S.2.1 dX11_sits_88 rfl (lv_at hl 2 rfl) ?_
          obtain ⟨g3, h⟩ := og_g h
          refine aM_18 S K w g3 dX11_sits_89 ?_
          refine lv_iadd S.1 S.2.1 dX11_sits_90 ?_
          refine lv_icmp_ge (tgt := 113) S.1 S.2.1 dX11_sits_91 (by decide) (fun c4 => ?_) (fun c4 => ?_)
          · have h := og_t c4 h
            refine lv_bipush (v := -9) S.1 S.2.1 dX11_sits_113 (by decide) ?_
            exact z_reti S w hr hlk dX11_sits_115 trivial (Option.some.inj h).symm
          · have h := og_f c4 h
            refine lv_iload S.1 S.2.1 dX11_sits_94 (lv_at hl 5 rfl) ?_
            refine lv_iload_n S.1 S.2.1 dX11_sits_96 rfl (lv_at hl 1 rfl) ?_
            obtain ⟨g5, h⟩ := og_d h
            refine lv_irem S.1 S.2.1 dX11_sits_97 g5 ?_
            refine lv_iload_n S.1 S.2.1 dX11_sits_98 rfl (lv_at hl 3 rfl) ?_
            refine lv_icmp_ne (tgt := 107) S.1 S.2.1 dX11_sits_99 (by decide) (fun c6 => ?_) (fun c6 => ?_)
            · have h := og_f c6 h
              refine lv_iinc (v := (x5 + (1 : Int32))) (lv' := [(5, .int (x5 + (1 : Int32))), (0, .ref (ad 0)), (1, .int x1), (2, .int x2), (3, .int x3), (4, .int x4)]) S.1 S.2.1 dX11_sits_107 hl (k := 5) rfl rfl (by decide) rfl (fun ls hl => ?_)
              refine lv_goto (tgt := 80) S.1 S.2.1 dX11_sits_110 (by decide) ?_
              exact ih80 _ _ _ _ _ _ _ _ h _ _ _ (lv_sub hl [1, 2, 3, 4, 5, 0] rfl) w
            · have h := og_t c6 h
              refine lv_iload S.1 S.2.1 dX11_sits_102 (lv_at hl 5 rfl) ?_
              refine lv_iload_n S.1 S.2.1 dX11_sits_104 rfl (lv_at hl 1 rfl) ?_
              obtain ⟨g7, h⟩ := og_d h
              refine lv_idiv S.1 S.2.1 dX11_sits_105 g7 ?_
              exact z_reti S w hr hlk dX11_sits_106 trivial (Option.some.inj h).symm
      refine lv_iload S.1 S.2.1 dX11_sits_52 (lv_at hl 5 rfl) ?_
      refine lv_iload_n S.1 S.2.1 dX11_sits_54 rfl (lv_at hl 2 rfl) ?_
      refine lv_icmp_ge (tgt := 76) S.1 S.2.1 dX11_sits_55 (by decide) (fun c1 => ?_) (fun c1 => ?_)
      · have h := og_t c1 h
        refine lv_iload S.1 S.2.1 dX11_sits_76 (lv_at hl 4 rfl) ?_
        refine lv_istore (lv' := [(5, .int x4), (0, .ref (ad 0)), (1, .int x1), (2, .int x2), (3, .int x3), (4, .int x4)]) S.1 S.2.1 dX11_sits_78 hl (by decide) rfl (fun ls hl => ?_)
        exact j80 1000 _ _ _ _ _ _ _ _ h _ _ _ (lv_sub hl [1, 2, 3, 4, 5, 0] rfl) w
      · have h := og_f c1 h
        refine lv_iload S.1 S.2.1 dX11_sits_58 (lv_at hl 4 rfl) ?_
        refine lv_aload_n S.1 S.2.1 dX11_sits_60 rfl (lv_at hl 0 rfl) ?_
        refine gM_0_28 S K w w756 dX11_sits_61 ?_
        refine lv_iload S.1 S.2.1 dX11_sits_64 (lv_at hl 5 rfl) ?_
        obtain ⟨g2, h⟩ := og_g h
        refine aM_18 S K w g2 dX11_sits_66 ?_
        refine lv_iadd S.1 S.2.1 dX11_sits_67 ?_
        refine lv_istore (lv' := [(4, .int (x4 + (A 18 (x5).toNatClampNeg))), (0, .ref (ad 0)), (1, .int x1), (2, .int x2), (3, .int x3), (5, .int x5)]) S.1 S.2.1 dX11_sits_68 hl (by decide) rfl (fun ls hl => ?_)
        refine lv_iinc (v := (x5 + (1 : Int32))) (lv' := [(5, .int (x5 + (1 : Int32))), (4, .int (x4 + (A 18 (x5).toNatClampNeg))), (0, .ref (ad 0)), (1, .int x1), (2, .int x2), (3, .int x3)]) S.1 S.2.1 dX11_sits_70 hl (k := 5) rfl rfl (by decide) rfl (fun ls hl => ?_)
        refine lv_goto (tgt := 52) S.1 S.2.1 dX11_sits_73 (by decide) ?_
        exact ih52 _ _ _ _ _ _ _ _ h _ _ _ (lv_sub hl [2, 3, 4, 5, 1, 0] rfl) w
  refine lv_iload_n S.1 S.2.1 dX11_sits_0 rfl (lv_at hl 1 rfl) ?_
  refine lv_iconst (v := 1) S.1 S.2.1 dX11_sits_1 (by decide) ?_
  refine lv_bipush (v := 60) S.1 S.2.1 dX11_sits_2 (by decide) ?_
  refine z_callSr S K w hA (c_X11_in l D cs ad F A T a0 (1 : Int32) (60 : Int32) (f_X11_in a0 (1 : Int32) (60 : Int32)) rfl) (cw_X11_72 S.2.2.2.2 ⟨Nat.le_of_ble_eq_true rfl, Nat.le_of_ble_eq_true rfl⟩) rfl hl.1 rfl (Nat.le_of_ble_eq_true rfl) ⟨Nat.zero_le _, Nat.zero_le _⟩ dX11_sits_4 (fun b8 H locs w => ?_)
  refine lv_if_eq (tgt := 29) S.1 S.2.1 dX11_sits_7 (by decide) (fun c9 => ?_) (fun c9 => ?_)
  · have h := og_t c9 h
    refine lv_iconst (v := -1) S.1 S.2.1 dX11_sits_29 (by decide) ?_
    exact z_reti S w hr hlk dX11_sits_30 trivial (Option.some.inj h).symm
  · have h := og_f c9 h
    refine lv_aload_n S.1 S.2.1 dX11_sits_10 rfl (lv_at hl 0 rfl) ?_
    refine lv_iload_n S.1 S.2.1 dX11_sits_11 rfl (lv_at hl 2 rfl) ?_
    refine z_callVr S K w hA (c_X11_isSuspect l D cs ad F A T a1 (f_X11_isSuspect a1 F A T) rfl) (cw_X11_153 S.2.2.2.2 ⟨Nat.le_of_ble_eq_true rfl, Nat.le_of_ble_eq_true rfl⟩) (z_recv K w 0 11 rfl rfl) rfl hl.1 rfl (Nat.le_of_ble_eq_true rfl) ⟨Nat.zero_le _, Nat.zero_le _⟩ dX11_sits_12 (fun b10 H locs w => ?_)
    refine lv_if_eq (tgt := 29) S.1 S.2.1 dX11_sits_15 (by decide) (fun c11 => ?_) (fun c11 => ?_)
    · have h := og_t c11 h
      refine lv_iconst (v := -1) S.1 S.2.1 dX11_sits_29 (by decide) ?_
      exact z_reti S w hr hlk dX11_sits_30 trivial (Option.some.inj h).symm
    · have h := og_f c11 h
      refine lv_iload_n S.1 S.2.1 dX11_sits_18 rfl (lv_at hl 3 rfl) ?_
      refine lv_iconst (v := 0) S.1 S.2.1 dX11_sits_19 (by decide) ?_
      refine lv_iload_n S.1 S.2.1 dX11_sits_20 rfl (lv_at hl 1 rfl) ?_
      refine lv_iconst (v := 1) S.1 S.2.1 dX11_sits_21 (by decide) ?_
      refine lv_isub S.1 S.2.1 dX11_sits_22 ?_
      refine z_callSr S K w hA (c_X11_in l D cs ad F A T a2 (0 : Int32) (a0 - (1 : Int32)) (f_X11_in a2 (0 : Int32) (a0 - (1 : Int32))) rfl) (cw_X11_72 S.2.2.2.2 ⟨Nat.le_of_ble_eq_true rfl, Nat.le_of_ble_eq_true rfl⟩) rfl hl.1 rfl (Nat.le_of_ble_eq_true rfl) ⟨Nat.zero_le _, Nat.zero_le _⟩ dX11_sits_23 (fun b12 H locs w => ?_)
      refine lv_if_ne (tgt := 31) S.1 S.2.1 dX11_sits_26 (by decide) (fun c13 => ?_) (fun c13 => ?_)
      · have h := og_f c13 h
        refine lv_aload_n S.1 S.2.1 dX11_sits_31 rfl (lv_at hl 0 rfl) ?_
        obtain ⟨q14, e15, h⟩ := og_b h
        refine z_callVv S K w hA (c_X11_asNow l D cs ad F A T q14 e15) (cw_X11_156 S.2.2.2.2 ⟨Nat.le_of_ble_eq_true rfl, Nat.le_of_ble_eq_true rfl⟩) (z_recv K w 0 11 rfl rfl) rfl hl.1 rfl (Nat.le_of_ble_eq_true rfl) ⟨Nat.zero_le _, Nat.zero_le _⟩ dX11_sits_32 (fun H locs w => ?_)
        refine lv_aload_n S.1 S.2.1 dX11_sits_35 rfl (lv_at hl 0 rfl) ?_
        refine lv_iload_n S.1 S.2.1 dX11_sits_36 rfl (lv_at hl 1 rfl) ?_
        obtain ⟨q17, e18, h⟩ := og_b h
        refine z_callVr S K w hA (c_X11_fitsIn l D cs ad q14.1 q14.2.1 q14.2.2 a0 q17 e18) (cw_X11_208 S.2.2.2.2 ⟨Nat.le_of_ble_eq_true rfl, Nat.le_of_ble_eq_true rfl⟩) (z_recv K w 0 11 rfl rfl) rfl hl.1 rfl (Nat.le_of_ble_eq_true rfl) ⟨Nat.zero_le _, Nat.zero_le _⟩ dX11_sits_37 (fun b16 H locs w => ?_)
        refine lv_if_ne (tgt := 46) S.1 S.2.1 dX11_sits_40 (by decide) (fun c19 => ?_) (fun c19 => ?_)
        · have h := og_f c19 h
          refine lv_iconst (v := 0) S.1 S.2.1 dX11_sits_46 (by decide) ?_
          refine lv_istore (lv' := [(4, .int (0 : Int32)), (0, .ref (ad 0)), (1, .int a0), (2, .int a1), (3, .int a2)]) S.1 S.2.1 dX11_sits_47 hl (by decide) rfl (fun ls hl => ?_)
          refine lv_iconst (v := 0) S.1 S.2.1 dX11_sits_49 (by decide) ?_
          refine lv_istore (lv' := [(5, .int (0 : Int32)), (4, .int (0 : Int32)), (0, .ref (ad 0)), (1, .int a0), (2, .int a1), (3, .int a2)]) S.1 S.2.1 dX11_sits_50 hl (by decide) rfl (fun ls hl => ?_)
          exact j52 1000 _ _ _ _ _ _ _ _ h _ _ _ (lv_sub hl [2, 3, 4, 5, 1, 0] rfl) w
        · have h := og_t c19 h
          refine lv_bipush (v := -9) S.1 S.2.1 dX11_sits_43 (by decide) ?_
          exact z_reti S w hr hlk dX11_sits_45 trivial (Option.some.inj h).symm
      · have h := og_t c13 h
        refine lv_iconst (v := -1) S.1 S.2.1 dX11_sits_29 (by decide) ?_
        exact z_reti S w hr hlk dX11_sits_30 trivial (Option.some.inj h).symm
set_option maxHeartbeats 4000000 in
set_option maxRecDepth 100000 in
theorem c_X11_byOther (l : Launch) (D : va_G) (cs : Nat → ClassId) (ad : Nat → Nat) (F : ZF) (A : ZA) (T : Int64) (a0 : Int32) (q : Int32) (h : f_X11_byOther a0 F A T = some q) : zMi l D cs (MW cs ad) yX11_byOther cX11_byOther 3 (some .int) rm_X11_byOther ([.ref (ad 0), .int a0] : List Value) F A T ((q, F, A, T) : Int32 × ZS) True := by
  refine z_enteri (by decide) (Nat.le_of_ble_eq_true rfl) ?_
  intro p e s m below meth c A0 ls S K w hA hr hlk hl
  have S : CallFix p m c cX11_byOther 3 s ([.ref (ad 0), .int a0] : List Value).toArray zWs RX11 := S
  have hl : lv_has ls 3 [(0, .ref (ad 0)), (1, .int a0)] := hl
  unfold f_X11_byOther at h
  refine lv_aload_n S.1 S.2.1 dX11_byOther_0 rfl (lv_at hl 0 rfl) ?_
  refine gM_0_24 S K w w752 dX11_byOther_1 ?_
  refine lv_iconst (v := 2) S.1 S.2.1 dX11_byOther_4 (by decide) ?_
  refine aM_15 S K w gk_2_102 dX11_byOther_5 ?_
  refine lv_aload_n S.1 S.2.1 dX11_byOther_6 rfl (lv_at hl 0 rfl) ?_
  refine gM_0_26 S K w w754 dX11_byOther_7 ?_
  refine lv_iload_n S.1 S.2.1 dX11_byOther_10 rfl (lv_at hl 1 rfl) ?_
  obtain ⟨g1, h⟩ := og_g h
  refine aM_17 S K w g1 dX11_byOther_11 ?_
  refine lv_imul S.1 S.2.1 dX11_byOther_12 ?_
  refine lv_bipush (v := 20) S.1 S.2.1 dX11_byOther_13 (by decide) ?_
  refine lv_idiv S.1 S.2.1 dX11_byOther_15 nz_20 ?_
  refine lv_istore_n (lv' := [(2, .int (((A 15 ((2 : Int32)).toNatClampNeg) * (A 17 (a0).toNatClampNeg)) / (20 : Int32))), (0, .ref (ad 0)), (1, .int a0)]) S.1 S.2.1 dX11_byOther_16 rfl hl (by decide) rfl (fun ls hl => ?_)
  refine lv_iload_n S.1 S.2.1 dX11_byOther_17 rfl (lv_at hl 0 rfl) ?_
  refine lv_aload_n S.1 S.2.1 dX11_byOther_18 rfl (lv_at hl 1 rfl) ?_
  refine gM_0_24 S K w w752 dX11_byOther_19 ?_
  refine lv_iconst (v := 2) S.1 S.2.1 dX11_byOther_22 (by decide) ?_
  refine aM_15 S K w gk_2_102 dX11_byOther_23 ?_
  refine lv_icmp_le (tgt := 36) S.1 S.2.1 dX11_byOther_24 (by decide) (fun c2 => ?_) (fun c2 => ?_)
  · have h := og_t c2 h
    refine lv_iload_n S.1 S.2.1 dX11_byOther_36 rfl (lv_at hl 0 rfl) ?_
    exact z_reti S w hr hlk dX11_byOther_37 trivial (by rw [← Option.some.inj h])
  · have h := og_f c2 h
    refine lv_aload_n S.1 S.2.1 dX11_byOther_27 rfl (lv_at hl 1 rfl) ?_
    refine gM_0_24 S K w w752 dX11_byOther_28 ?_
    refine lv_iconst (v := 2) S.1 S.2.1 dX11_byOther_31 (by decide) ?_
    refine aM_15 S K w gk_2_102 dX11_byOther_32 ?_
    refine lv_goto (tgt := 37) S.1 S.2.1 dX11_byOther_33 (by decide) ?_
    exact z_reti S w hr hlk dX11_byOther_37 trivial (by rw [← Option.some.inj h])
set_option maxHeartbeats 4000000 in
set_option maxRecDepth 100000 in
theorem c_X11_wronged (l : Launch) (D : va_G) (cs : Nat → ClassId) (ad : Nat → Nat) (F : ZF) (A : ZA) (T : Int64) (a0 : Int32) (q : (Int32 × ZS)) (h : f_X11_wronged a0 F A T = some q) : zMi l D cs (MW cs ad) yX11_wronged cX11_wronged 5 (some .int) rm_X11_wronged ([.ref (ad 0), .int a0] : List Value) F A T q True := by
  refine z_enteri (by decide) (Nat.le_of_ble_eq_true rfl) ?_
  intro p e s m below meth c A0 ls S K w hA hr hlk hl
  have S : CallFix p m c cX11_wronged 5 s ([.ref (ad 0), .int a0] : List Value).toArray zWs RX11 := S
  have hl : lv_has ls 5 [(0, .ref (ad 0)), (1, .int a0)] := hl
  unfold f_X11_wronged at h
  have j16 : ∀ (x1 : Int32) (F : ZF) (A : ZA) (T : Int64), f_X11_wronged_16 x1 F A T = some q → ∀ (H : Heap) (locs : List Loc) (ls : Array Slot), lv_has ls 5 [(0, .ref (ad 0)), (1, .int x1)] → ZW D A0 s.heap (MW cs ad F A T) H locs → W p l e rm_X11_wronged s m ([.ref (ad 0), .int a0] : List Value).toArray below meth c H locs 0 0 (zQi (MW cs ad) D A0 below ([.ref (ad 0), .int a0] : List Value) s q True) (F0 m 16 ls []) := by
    intro x1 F A T h H locs ls hl w
    unfold f_X11_wronged_16 at h
    have j24 : ∀ (n24 : Nat) (x1 x2 x3 : Int32) (F : ZF) (A : ZA) (T : Int64), f_X11_wronged_24 n24 x1 x2 x3 F A T = some q → ∀ (H : Heap) (locs : List Loc) (ls : Array Slot), lv_has ls 5 [(0, .ref (ad 0)), (1, .int x1), (2, .int x2), (3, .int x3)] → ZW D A0 s.heap (MW cs ad F A T) H locs → W p l e rm_X11_wronged s m ([.ref (ad 0), .int a0] : List Value).toArray below meth c H locs 0 0 (zQi (MW cs ad) D A0 below ([.ref (ad 0), .int a0] : List Value) s q True) (F0 m 24 ls []) := by
      intro n24
      induction n24 with
      | zero =>
        intro x1 x2 x3 F A T h H locs ls hl w
        have h : (none : Option (Int32 × ZS)) = some q := h
        cases h
      | succ n24 ih24 =>
        intro x1 x2 x3 F A T h H locs ls hl w
        rw [f_X11_wronged_24_s] at h
        have j62 : ∀ (x1 x3 y0 y1 : Int32) (F : ZF) (A : ZA) (T : Int64), f_X11_wronged_62 (f_X11_wronged_24 n24) x1 x3 y0 y1 F A T = some q → ∀ (H : Heap) (locs : List Loc) (ls : Array Slot), lv_has ls 5 [(0, .ref (ad 0)), (1, .int x1), (3, .int x3)] → ZW D A0 s.heap (MW cs ad F A T) H locs → W p l e rm_X11_wronged s m ([.ref (ad 0), .int a0] : List Value).toArray below meth c H locs 0 0 (zQi (MW cs ad) D A0 below ([.ref (ad 0), .int a0] : List Value) s q True) (F0 m 62 ls [.int y0, .int y1]) := by
          intro x1 x3 y0 y1 F A T h H locs ls hl w
          unfold f_X11_wronged_62 at h
          refine lv_iadd S.1 S.2.1 dX11_wronged_62 ?_
          refine lv_istore_n (lv' := [(2, .int (y1 + y0)), (0, .ref (ad 0)), (1, .int x1), (3, .int x3)]) S.1 S.2.1 dX11_wronged_63 rfl hl (by decide) rfl (fun ls hl => ?_)
          refine lv_iinc (v := (x3 + (1 : Int32))) (lv' := [(3, .int (x3 + (1 : Int32))), (2, .int (y1 + y0)), (0, .ref (ad 0)), (1, .int x1)]) S.1 S.2.1 dX11_wronged_64 hl (k := 3) rfl rfl (by decide) rfl (fun ls hl => ?_)
          refine lv_goto (tgt := 24) S.1 S.2.1 dX11_wronged_67 (by decide) ?_
          exact ih24 _ _ _ _ _ _ h _ _ _ (lv_sub hl [2, 3, 1, 0] rfl) w
        refine lv_iload_n S.1 S.2.1 dX11_wronged_24 rfl (lv_at hl 3 rfl) ?_
        refine lv_aload_n S.1 S.2.1 dX11_wronged_25 rfl (lv_at hl 0 rfl) ?_
        refine gM_0_3 S K w w731 dX11_wronged_26 ?_
        refine lv_iconst (v := 0) S.1 S.2.1 dX11_wronged_29 (by decide) ?_
        refine aM_2 S K w gk_0_2 dX11_wronged_30 ?_
        refine lv_icmp_ge (tgt := 70) S.1 S.2.1 dX11_wronged_31 (by decide) (fun c3 => ?_) (fun c3 => ?_)
        · have h := og_t c3 h
          refine lv_iload_n S.1 S.2.1 dX11_wronged_70 rfl (lv_at hl 1 rfl) ?_
          refine lv_iconst (v := -1) S.1 S.2.1 dX11_wronged_71 (by decide) ?_
          refine lv_icmp_ne (tgt := 79) S.1 S.2.1 dX11_wronged_72 (by decide) (fun c4 => ?_) (fun c4 => ?_)
          · have h := og_f c4 h
            refine lv_aload_n S.1 S.2.1 dX11_wronged_79 rfl (lv_at hl 0 rfl) ?_
            refine gM_0_28 S K w w756 dX11_wronged_80 ?_
            refine lv_iload_n S.1 S.2.1 dX11_wronged_83 rfl (lv_at hl 1 rfl) ?_
            obtain ⟨g5, h⟩ := og_g h
            refine aM_18 S K w g5 dX11_wronged_84 ?_
            refine lv_aload_n S.1 S.2.1 dX11_wronged_85 rfl (lv_at hl 0 rfl) ?_
            refine lv_iload_n S.1 S.2.1 dX11_wronged_86 rfl (lv_at hl 1 rfl) ?_
            obtain ⟨q7, e8, h⟩ := og_b h
            refine z_callVr S K w hA (c_X11_byOther l D cs ad F A T x1 q7 e8) (cw_X11_211 S.2.2.2.2 ⟨Nat.le_of_ble_eq_true rfl, Nat.le_of_ble_eq_true rfl⟩) (z_recv K w 0 11 rfl rfl) rfl hl.1 rfl (Nat.le_of_ble_eq_true rfl) ⟨Nat.zero_le _, Nat.zero_le _⟩ dX11_wronged_87 (fun b6 H locs w => ?_)
            refine lv_isub S.1 S.2.1 dX11_wronged_90 ?_
            exact z_reti S w hr hlk dX11_wronged_91 trivial (Option.some.inj h).symm
          · have h := og_t c4 h
            refine lv_iload_n S.1 S.2.1 dX11_wronged_75 rfl (lv_at hl 2 rfl) ?_
            refine lv_goto (tgt := 91) S.1 S.2.1 dX11_wronged_76 (by decide) ?_
            exact z_reti S w hr hlk dX11_wronged_91 trivial (Option.some.inj h).symm
        · have h := og_f c3 h
          refine lv_aload_n S.1 S.2.1 dX11_wronged_34 rfl (lv_at hl 0 rfl) ?_
          refine gM_0_28 S K w w756 dX11_wronged_35 ?_
          refine lv_iload_n S.1 S.2.1 dX11_wronged_38 rfl (lv_at hl 3 rfl) ?_
          obtain ⟨g9, h⟩ := og_g h
          refine aM_18 S K w g9 dX11_wronged_39 ?_
          refine lv_aload_n S.1 S.2.1 dX11_wronged_40 rfl (lv_at hl 0 rfl) ?_
          refine lv_iload_n S.1 S.2.1 dX11_wronged_41 rfl (lv_at hl 3 rfl) ?_
          obtain ⟨q11, e12, h⟩ := og_b h
          refine z_callVr S K w hA (c_X11_byOther l D cs ad F A T x3 q11 e12) (cw_X11_211 S.2.2.2.2 ⟨Nat.le_of_ble_eq_true rfl, Nat.le_of_ble_eq_true rfl⟩) (z_recv K w 0 11 rfl rfl) rfl hl.1 rfl (Nat.le_of_ble_eq_true rfl) ⟨Nat.zero_le _, Nat.zero_le _⟩ dX11_wronged_42 (fun b10 H locs w => ?_)
          refine lv_isub S.1 S.2.1 dX11_wronged_45 ?_
          refine lv_istore (lv' := [(4, .int ((A 18 (x3).toNatClampNeg) - q11)), (0, .ref (ad 0)), (1, .int x1), (2, .int x2), (3, .int x3)]) S.1 S.2.1 dX11_wronged_46 hl (by decide) rfl (fun ls hl => ?_)
          refine lv_iload_n S.1 S.2.1 dX11_wronged_48 rfl (lv_at hl 3 rfl) ?_
          refine lv_iload S.1 S.2.1 dX11_wronged_49 (lv_at hl 0 rfl) ?_
          refine lv_if_ge (tgt := 60) S.1 S.2.1 dX11_wronged_51 (by decide) (fun c13 => ?_) (fun c13 => ?_)
          · have h := og_t c13 h
            refine lv_iload S.1 S.2.1 dX11_wronged_60 (lv_at hl 0 rfl) ?_
            exact j62 _ _ _ _ _ _ _ h _ _ _ (lv_sub hl [1, 2, 4] rfl) w
          · have h := og_f c13 h
            refine lv_iload S.1 S.2.1 dX11_wronged_54 (lv_at hl 0 rfl) ?_
            refine lv_ineg S.1 S.2.1 dX11_wronged_56 ?_
            refine lv_goto (tgt := 62) S.1 S.2.1 dX11_wronged_57 (by decide) ?_
            exact j62 _ _ _ _ _ _ _ h _ _ _ (lv_sub hl [1, 2, 4] rfl) w
    refine lv_aload_n S.1 S.2.1 dX11_wronged_16 rfl (lv_at hl 0 rfl) ?_
    obtain ⟨q1, e2, h⟩ := og_b h
    refine z_callVv S K w hA (c_X11_asNow l D cs ad F A T q1 e2) (cw_X11_156 S.2.2.2.2 ⟨Nat.le_of_ble_eq_true rfl, Nat.le_of_ble_eq_true rfl⟩) (z_recv K w 0 11 rfl rfl) rfl hl.1 rfl (Nat.le_of_ble_eq_true rfl) ⟨Nat.zero_le _, Nat.zero_le _⟩ dX11_wronged_17 (fun H locs w => ?_)
    refine lv_iconst (v := 0) S.1 S.2.1 dX11_wronged_20 (by decide) ?_
    refine lv_istore_n (lv' := [(2, .int (0 : Int32)), (0, .ref (ad 0)), (1, .int x1)]) S.1 S.2.1 dX11_wronged_21 rfl hl (by decide) rfl (fun ls hl => ?_)
    refine lv_iconst (v := 0) S.1 S.2.1 dX11_wronged_22 (by decide) ?_
    refine lv_istore_n (lv' := [(3, .int (0 : Int32)), (2, .int (0 : Int32)), (0, .ref (ad 0)), (1, .int x1)]) S.1 S.2.1 dX11_wronged_23 rfl hl (by decide) rfl (fun ls hl => ?_)
    exact j24 1000 _ _ _ _ _ _ h _ _ _ (lv_sub hl [2, 3, 1, 0] rfl) w
  refine lv_iload_n S.1 S.2.1 dX11_wronged_0 rfl (lv_at hl 1 rfl) ?_
  refine lv_iconst (v := -1) S.1 S.2.1 dX11_wronged_1 (by decide) ?_
  refine lv_icmp_eq (tgt := 16) S.1 S.2.1 dX11_wronged_2 (by decide) (fun c14 => ?_) (fun c14 => ?_)
  · have h := og_t c14 h
    exact j16 _ _ _ _ h _ _ _ (lv_sub hl [0, 1] rfl) w
  · have h := og_f c14 h
    refine lv_aload_n S.1 S.2.1 dX11_wronged_5 rfl (lv_at hl 0 rfl) ?_
    refine lv_iload_n S.1 S.2.1 dX11_wronged_6 rfl (lv_at hl 1 rfl) ?_
    refine z_callVr S K w hA (c_X11_isSuspect l D cs ad F A T a0 (f_X11_isSuspect a0 F A T) rfl) (cw_X11_153 S.2.2.2.2 ⟨Nat.le_of_ble_eq_true rfl, Nat.le_of_ble_eq_true rfl⟩) (z_recv K w 0 11 rfl rfl) rfl hl.1 rfl (Nat.le_of_ble_eq_true rfl) ⟨Nat.zero_le _, Nat.zero_le _⟩ dX11_wronged_7 (fun b15 H locs w => ?_)
    refine lv_if_ne (tgt := 16) S.1 S.2.1 dX11_wronged_10 (by decide) (fun c16 => ?_) (fun c16 => ?_)
    · have h := og_f c16 h
      exact j16 _ _ _ _ h _ _ _ (lv_sub hl [0, 1] rfl) w
    · have h := og_t c16 h
      refine lv_ldc (v := -1000000) S.1 S.2.1 S.2.2.2.1 (S.2.2.2.2 _ w913) dX11_wronged_13 ?_
      exact z_reti S w hr hlk dX11_wronged_15 trivial (Option.some.inj h).symm
set_option maxHeartbeats 4000000 in
set_option maxRecDepth 100000 in
theorem c_X11_book (l : Launch) (D : va_G) (cs : Nat → ClassId) (ad : Nat → Nat) (F : ZF) (A : ZA) (T : Int64) (a0 a1 : Int32) (q : (Int32 × ZS)) (h : f_X11_book a0 a1 F A T = some q) : zMi l D cs (MW cs ad) yX11_book cX11_book 3 (some .int) rm_X11_book ([.ref (ad 0), .int a0, .int a1] : List Value) F A T q True := by
  refine z_enteri (by decide) (Nat.le_of_ble_eq_true rfl) ?_
  intro p e s m below meth c A0 ls S K w hA hr hlk hl
  have S : CallFix p m c cX11_book 3 s ([.ref (ad 0), .int a0, .int a1] : List Value).toArray zWs RX11 := S
  have hl : lv_has ls 3 [(0, .ref (ad 0)), (1, .int a0), (2, .int a1)] := hl
  unfold f_X11_book at h
  refine lv_aload_n S.1 S.2.1 dX11_book_0 rfl (lv_at hl 0 rfl) ?_
  refine lv_iload_n S.1 S.2.1 dX11_book_1 rfl (lv_at hl 1 rfl) ?_
  refine z_callVr S K w hA (c_X11_isSuspect l D cs ad F A T a0 (f_X11_isSuspect a0 F A T) rfl) (cw_X11_153 S.2.2.2.2 ⟨Nat.le_of_ble_eq_true rfl, Nat.le_of_ble_eq_true rfl⟩) (z_recv K w 0 11 rfl rfl) rfl hl.1 rfl (Nat.le_of_ble_eq_true rfl) ⟨Nat.zero_le _, Nat.zero_le _⟩ dX11_book_2 (fun b1 H locs w => ?_)
  refine lv_if_eq (tgt := 18) S.1 S.2.1 dX11_book_5 (by decide) (fun c2 => ?_) (fun c2 => ?_)
  · have h := og_t c2 h
    refine lv_iconst (v := -1) S.1 S.2.1 dX11_book_18 (by decide) ?_
    exact z_reti S w hr hlk dX11_book_19 trivial (Option.some.inj h).symm
  · have h := og_f c2 h
    refine lv_iload_n S.1 S.2.1 dX11_book_8 rfl (lv_at hl 2 rfl) ?_
    refine lv_iconst (v := 0) S.1 S.2.1 dX11_book_9 (by decide) ?_
    refine lv_bipush (v := 60) S.1 S.2.1 dX11_book_10 (by decide) ?_
    refine z_callSr S K w hA (c_X11_in l D cs ad F A T a1 (0 : Int32) (60 : Int32) (f_X11_in a1 (0 : Int32) (60 : Int32)) rfl) (cw_X11_72 S.2.2.2.2 ⟨Nat.le_of_ble_eq_true rfl, Nat.le_of_ble_eq_true rfl⟩) rfl hl.1 rfl (Nat.le_of_ble_eq_true rfl) ⟨Nat.zero_le _, Nat.zero_le _⟩ dX11_book_12 (fun b3 H locs w => ?_)
    refine lv_if_ne (tgt := 20) S.1 S.2.1 dX11_book_15 (by decide) (fun c4 => ?_) (fun c4 => ?_)
    · have h := og_f c4 h
      refine lv_aload_n S.1 S.2.1 dX11_book_20 rfl (lv_at hl 0 rfl) ?_
      refine gM_0_31 S K w w759 dX11_book_21 ?_
      refine lv_bipush (v := 6) S.1 S.2.1 dX11_book_24 (by decide) ?_
      refine lv_icmp_ne (tgt := 32) S.1 S.2.1 dX11_book_26 (by decide) (fun c5 => ?_) (fun c5 => ?_)
      · have h := og_f c5 h
        refine lv_aload_n S.1 S.2.1 dX11_book_32 rfl (lv_at hl 0 rfl) ?_
        refine gM_0_29 S K w w757 dX11_book_33 ?_
        refine lv_aload_n S.1 S.2.1 dX11_book_36 rfl (lv_at hl 0 rfl) ?_
        refine gM_0_31 S K w w759 dX11_book_37 ?_
        refine lv_iload_n S.1 S.2.1 dX11_book_40 rfl (lv_at hl 1 rfl) ?_
        obtain ⟨g6, h⟩ := og_g h
        refine sM_19 S K w g6 dX11_book_41 (fun H locs w => ?_)
        refine lv_aload_n S.1 S.2.1 dX11_book_42 rfl (lv_at hl 0 rfl) ?_
        refine gM_0_30 S K w w758 dX11_book_43 ?_
        refine lv_aload_n S.1 S.2.1 dX11_book_46 rfl (lv_at hl 0 rfl) ?_
        refine gM_0_31 S K w w759 dX11_book_47 ?_
        refine lv_iload_n S.1 S.2.1 dX11_book_50 rfl (lv_at hl 2 rfl) ?_
        obtain ⟨g7, h⟩ := og_g h
        refine sM_20 S K w g7 dX11_book_51 (fun H locs w => ?_)
        refine lv_aload_n S.1 S.2.1 dX11_book_52 rfl (lv_at hl 0 rfl) ?_
        refine lv_dup S.1 S.2.1 dX11_book_53 rfl ?_
        refine gM_0_31 S K w w759 dX11_book_54 ?_
        refine lv_iconst (v := 1) S.1 S.2.1 dX11_book_57 (by decide) ?_
        refine lv_iadd S.1 S.2.1 dX11_book_58 ?_
        refine pM_0_31 S K w w759 dX11_book_59 (fun H locs w => ?_)
        refine lv_aload_n S.1 S.2.1 dX11_book_62 rfl (lv_at hl 0 rfl) ?_
        refine gM_0_31 S K w w759 dX11_book_63 ?_
        exact z_reti S w hr hlk dX11_book_66 trivial (Option.some.inj h).symm
      · have h := og_t c5 h
        refine lv_bipush (v := -3) S.1 S.2.1 dX11_book_29 (by decide) ?_
        exact z_reti S w hr hlk dX11_book_31 trivial (Option.some.inj h).symm
    · have h := og_t c4 h
      refine lv_iconst (v := -1) S.1 S.2.1 dX11_book_18 (by decide) ?_
      exact z_reti S w hr hlk dX11_book_19 trivial (Option.some.inj h).symm
