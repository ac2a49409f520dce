set_option maxHeartbeats 4000000 in
set_option maxRecDepth 100000 in
theorem c_X11_in (l : Launch) (D : va_G) (cs : Nat → ClassId) (ad : Nat → Nat) (F : ZF) (A : ZA) (T : Int64) (a0 a1 a2 : Int32) (q : Int32) (h : f_X11_in a0 a1 a2 = q) : zMi l D cs (MW cs ad) yX11_in cX11_in 3 (some .boolean) rm_X11_in ([.int a0, .int a1, .int a2] : List Value) F A T ((q, F, A, T) : Int32 × ZS) (((q, F, A, T) : Int32 × ZS).1 &&& 1 = ((q, F, A, T) : Int32 × ZS).1) := by
  refine z_enteri (by decide) (Nat.le_of_ble_eq_true rfl) ?_
  intro p e s m below meth c A0 ls S K w hA hr hlk hl
  have S : CallFix p m c cX11_in 3 s ([.int a0, .int a1, .int a2] : List Value).toArray zWs RX11 := S
  have hl : lv_has ls 3 [(0, .int a0), (1, .int a1), (2, .int a2)] := hl
  unfold f_X11_in at h
  refine lv_iload_n S.1 S.2.1 dX11_in_0 rfl (lv_at hl 0 rfl) ?_
  refine lv_iload_n S.1 S.2.1 dX11_in_1 rfl (lv_at hl 1 rfl) ?_
  refine lv_icmp_lt (tgt := 14) S.1 S.2.1 dX11_in_2 (by decide) (fun c1 => ?_) (fun c1 => ?_)
  · have h := og_t c1 h
    refine lv_iconst (v := 0) S.1 S.2.1 dX11_in_14 (by decide) ?_
    exact z_retz S w hr hlk dX11_in_15 (by decide) (by rw [← h])
  · have h := og_f c1 h
    refine lv_iload_n S.1 S.2.1 dX11_in_5 rfl (lv_at hl 0 rfl) ?_
    refine lv_iload_n S.1 S.2.1 dX11_in_6 rfl (lv_at hl 2 rfl) ?_
    refine lv_icmp_gt (tgt := 14) S.1 S.2.1 dX11_in_7 (by decide) (fun c2 => ?_) (fun c2 => ?_)
    · have h := og_t c2 h
      refine lv_iconst (v := 0) S.1 S.2.1 dX11_in_14 (by decide) ?_
      exact z_retz S w hr hlk dX11_in_15 (by decide) (by rw [← h])
    · have h := og_f c2 h
      refine lv_iconst (v := 1) S.1 S.2.1 dX11_in_10 (by decide) ?_
      refine lv_goto (tgt := 15) S.1 S.2.1 dX11_in_11 (by decide) ?_
      exact z_retz S w hr hlk dX11_in_15 (by decide) (by rw [← h])
set_option maxHeartbeats 4000000 in
set_option maxRecDepth 100000 in
theorem c_X11_type (l : Launch) (D : va_G) (cs : Nat → ClassId) (ad : Nat → Nat) (F : ZF) (A : ZA) (T : Int64) (a0 : Int32) (q : (Int32 × ZS)) (h : f_X11_type a0 F A T = some q) : zMi l D cs (MW cs ad) yX11_type cX11_type 2 (some .int) rm_X11_type ([.ref (ad 0), .int a0] : List Value) F A T q True := by
  refine z_enteri (by decide) (Nat.le_of_ble_eq_true rfl) ?_
  intro p e s m below meth c A0 ls S K w hA hr hlk hl
  have S : CallFix p m c cX11_type 2 s ([.ref (ad 0), .int a0] : List Value).toArray zWs RX11 := S
  have hl : lv_has ls 2 [(0, .ref (ad 0)), (1, .int a0)] := hl
  unfold f_X11_type at h
  refine lv_iload_n S.1 S.2.1 dX11_type_0 rfl (lv_at hl 1 rfl) ?_
  refine lv_iconst (v := 0) S.1 S.2.1 dX11_type_1 (by decide) ?_
  refine lv_sipush (v := 255) S.1 S.2.1 dX11_type_2 (by decide) ?_
  refine z_callSr S K w hA (c_X11_in l D cs ad F A T a0 (0 : Int32) (255 : Int32) (f_X11_in a0 (0 : Int32) (255 : Int32)) rfl) (cw_X11_72 S.2.2.2.2 ⟨Nat.le_of_ble_eq_true rfl, Nat.le_of_ble_eq_true rfl⟩) rfl hl.1 rfl (Nat.le_of_ble_eq_true rfl) ⟨Nat.zero_le _, Nat.zero_le _⟩ dX11_type_5 (fun b1 H locs w => ?_)
  refine lv_if_ne (tgt := 13) S.1 S.2.1 dX11_type_8 (by decide) (fun c2 => ?_) (fun c2 => ?_)
  · have h := og_f c2 h
    refine lv_aload_n S.1 S.2.1 dX11_type_13 rfl (lv_at hl 0 rfl) ?_
    refine gM_0_2 S K w w730 dX11_type_14 ?_
    refine lv_sipush (v := 200) S.1 S.2.1 dX11_type_17 (by decide) ?_
    refine lv_icmp_ne (tgt := 26) S.1 S.2.1 dX11_type_20 (by decide) (fun c3 => ?_) (fun c3 => ?_)
    · have h := og_f c3 h
      refine lv_aload_n S.1 S.2.1 dX11_type_26 rfl (lv_at hl 0 rfl) ?_
      refine gM_0_1 S K w w729 dX11_type_27 ?_
      refine lv_aload_n S.1 S.2.1 dX11_type_30 rfl (lv_at hl 0 rfl) ?_
      refine gM_0_2 S K w w730 dX11_type_31 ?_
      refine lv_iload_n S.1 S.2.1 dX11_type_34 rfl (lv_at hl 1 rfl) ?_
      refine lv_i2b S.1 S.2.1 dX11_type_35 rfl ?_
      obtain ⟨g4, h⟩ := og_g h
      refine sM_1 S K w g4 dX11_type_36 (fun H locs w => ?_)
      refine lv_aload_n S.1 S.2.1 dX11_type_37 rfl (lv_at hl 0 rfl) ?_
      refine lv_dup S.1 S.2.1 dX11_type_38 rfl ?_
      refine gM_0_2 S K w w730 dX11_type_39 ?_
      refine lv_iconst (v := 1) S.1 S.2.1 dX11_type_42 (by decide) ?_
      refine lv_iadd S.1 S.2.1 dX11_type_43 ?_
      refine pM_0_2 S K w w730 dX11_type_44 (fun H locs w => ?_)
      refine lv_aload_n S.1 S.2.1 dX11_type_47 rfl (lv_at hl 0 rfl) ?_
      refine gM_0_2 S K w w730 dX11_type_48 ?_
      exact z_reti S w hr hlk dX11_type_51 trivial (Option.some.inj h).symm
    · have h := og_t c3 h
      refine lv_bipush (v := -3) S.1 S.2.1 dX11_type_23 (by decide) ?_
      exact z_reti S w hr hlk dX11_type_25 trivial (Option.some.inj h).symm
  · have h := og_t c2 h
    refine lv_iconst (v := -1) S.1 S.2.1 dX11_type_11 (by decide) ?_
    exact z_reti S w hr hlk dX11_type_12 trivial (Option.some.inj h).symm
set_option maxHeartbeats 4000000 in
set_option maxRecDepth 100000 in
theorem c_X11_clear (l : Launch) (D : va_G) (cs : Nat → ClassId) (ad : Nat → Nat) (F : ZF) (A : ZA) (T : Int64) (q : (Int32 × ZS)) (h : f_X11_clear F A T = some q) : zMi l D cs (MW cs ad) yX11_clear cX11_clear 2 (some .int) rm_X11_clear ([.ref (ad 0)] : List Value) F A T q True := by
  refine z_enteri (by decide) (Nat.le_of_ble_eq_true rfl) ?_
  intro p e s m below meth c A0 ls S K w hA hr hlk hl
  have S : CallFix p m c cX11_clear 2 s ([.ref (ad 0)] : List Value).toArray zWs RX11 := S
  have hl : lv_has ls 2 [(0, .ref (ad 0))] := hl
  unfold f_X11_clear at h
  refine lv_aload_n S.1 S.2.1 dX11_clear_0 rfl (lv_at hl 0 rfl) ?_
  refine gM_0_2 S K w w730 dX11_clear_1 ?_
  refine lv_istore_n (lv' := [(1, .int (F 0)), (0, .ref (ad 0))]) S.1 S.2.1 dX11_clear_4 rfl hl (by decide) rfl (fun ls hl => ?_)
  refine lv_aload_n S.1 S.2.1 dX11_clear_5 rfl (lv_at hl 1 rfl) ?_
  refine lv_iconst (v := 0) S.1 S.2.1 dX11_clear_6 (by decide) ?_
  refine pM_0_2 S K w w730 dX11_clear_7 (fun H locs w => ?_)
  refine lv_iload_n S.1 S.2.1 dX11_clear_10 rfl (lv_at hl 0 rfl) ?_
  exact z_reti S w hr hlk dX11_clear_11 trivial (Option.some.inj h).symm
set_option maxHeartbeats 4000000 in
set_option maxRecDepth 100000 in
theorem c_X11_isSuspect (l : Launch) (D : va_G) (cs : Nat → ClassId) (ad : Nat → Nat) (F : ZF) (A : ZA) (T : Int64) (a0 : Int32) (q : Int32) (h : f_X11_isSuspect a0 F A T = q) : zMi l D cs (MW cs ad) yX11_isSuspect cX11_isSuspect 2 (some .boolean) rm_X11_isSuspect ([.ref (ad 0), .int a0] : List Value) F A T ((q, F, A, T) : Int32 × ZS) (((q, F, A, T) : Int32 × ZS).1 &&& 1 = ((q, F, A, T) : Int32 × ZS).1) := by
  refine z_enteri (by decide) (Nat.le_of_ble_eq_true rfl) ?_
  intro p e s m below meth c A0 ls S K w hA hr hlk hl
  have S : CallFix p m c cX11_isSuspect 2 s ([.ref (ad 0), .int a0] : List Value).toArray zWs RX11 := S
  have hl : lv_has ls 2 [(0, .ref (ad 0)), (1, .int a0)] := hl
  unfold f_X11_isSuspect at h
  refine lv_iload_n S.1 S.2.1 dX11_isSuspect_0 rfl (lv_at hl 1 rfl) ?_
  refine lv_iconst (v := 0) S.1 S.2.1 dX11_isSuspect_1 (by decide) ?_
  refine lv_aload_n S.1 S.2.1 dX11_isSuspect_2 rfl (lv_at hl 0 rfl) ?_
  refine gM_0_3 S K w w731 dX11_isSuspect_3 ?_
  refine lv_iconst (v := 0) S.1 S.2.1 dX11_isSuspect_6 (by decide) ?_
  refine aM_2 S K w gk_0_2 dX11_isSuspect_7 ?_
  refine lv_iconst (v := 1) S.1 S.2.1 dX11_isSuspect_8 (by decide) ?_
  refine lv_isub S.1 S.2.1 dX11_isSuspect_9 ?_
  refine z_callSr S K w hA (c_X11_in l D cs ad F A T a0 (0 : Int32) ((A 2 ((0 : Int32)).toNatClampNeg) - (1 : Int32)) (f_X11_in a0 (0 : Int32) ((A 2 ((0 : Int32)).toNatClampNeg) - (1 : Int32))) rfl) (cw_X11_72 S.2.2.2.2 ⟨Nat.le_of_ble_eq_true rfl, Nat.le_of_ble_eq_true rfl⟩) rfl hl.1 rfl (Nat.le_of_ble_eq_true rfl) ⟨Nat.zero_le _, Nat.zero_le _⟩ dX11_isSuspect_10 (fun b1 H locs w => ?_)
  exact z_retz S w hr hlk dX11_isSuspect_13 b1 (by rw [← h])
set_option maxHeartbeats 4000000 in
set_option maxRecDepth 100000 in
theorem c_X11_hoursOf (l : Launch) (D : va_G) (cs : Nat → ClassId) (ad : Nat → Nat) (F : ZF) (A : ZA) (T : Int64) (a0 : Int32) (q : Int32) (h : f_X11_hoursOf a0 F A T = some q) : zMi l D cs (MW cs ad) yX11_hoursOf cX11_hoursOf 6 (some .int) rm_X11_hoursOf ([.ref (ad 0), .int a0] : List Value) F A T ((q, F, A, T) : Int32 × ZS) True := by
  refine z_enteri (by decide) (Nat.le_of_ble_eq_true rfl) ?_
  intro p e s m below meth c A0 ls S K w hA hr hlk hl
  have S : CallFix p m c cX11_hoursOf 6 s ([.ref (ad 0), .int a0] : List Value).toArray zWs RX11 := S
  have hl : lv_has ls 6 [(0, .ref (ad 0)), (1, .int a0)] := hl
  unfold f_X11_hoursOf at h
  have j9 : ∀ (n9 : Nat) (x1 x2 x3 : Int32), f_X11_hoursOf_9 F A T n9 x1 x2 x3 = some q → ∀ (H : Heap) (locs : List Loc) (ls : Array Slot), lv_has ls 6 [(0, .ref (ad 0)), (1, .int x1), (2, .int x2), (3, .int x3)] → ZW D A0 s.heap (MW cs ad F A T) H locs → W p l e rm_X11_hoursOf s m ([.ref (ad 0), .int a0] : List Value).toArray below meth c H locs 0 0 (zQi (MW cs ad) D A0 below ([.ref (ad 0), .int a0] : List Value) s ((q, F, A, T) : Int32 × ZS) True) (F0 m 9 ls []) := by
    intro n9
    induction n9 with
    | zero =>
      intro x1 x2 x3 h H locs ls hl w
      have h : (none : Option Int32) = some q := h
      cases h
    | succ n9 ih9 =>
      intro x1 x2 x3 h H locs ls hl w
      rw [f_X11_hoursOf_9_s] at h
      have j25 : ∀ (n25 : Nat) (x1 x2 x3 x4 x5 : Int32), f_X11_hoursOf_25 F A T (f_X11_hoursOf_9 F A T n9) n25 x1 x2 x3 x4 x5 = some q → ∀ (H : Heap) (locs : List Loc) (ls : Array Slot), lv_has ls 6 [(0, .ref (ad 0)), (1, .int x1), (2, .int x2), (3, .int x3), (4, .int x4), (5, .int x5)] → ZW D A0 s.heap (MW cs ad F A T) H locs → W p l e rm_X11_hoursOf s m ([.ref (ad 0), .int a0] : List Value).toArray below meth c H locs 0 0 (zQi (MW cs ad) D A0 below ([.ref (ad 0), .int a0] : List Value) s ((q, F, A, T) : Int32 × ZS) True) (F0 m 25 ls []) := by
        intro n25
        induction n25 with
        | zero =>
          intro x1 x2 x3 x4 x5 h H locs ls hl w
          have h : (none : Option Int32) = some q := h
          cases h
        | succ n25 ih25 =>
          intro x1 x2 x3 x4 x5 h H locs ls hl w
          rw [f_X11_hoursOf_25_s] at h
          have j112 : ∀ (x1 x3 y0 y1 : Int32), f_X11_hoursOf_112 F A T (f_X11_hoursOf_9 F A T n9) x1 x3 y0 y1 = some q → ∀ (H : Heap) (locs : List Loc) (ls : Array Slot), lv_has ls 6 [(0, .ref (ad 0)), (1, .int x1), (3, .int x3)] → ZW D A0 s.heap (MW cs ad F A T) H locs → W p l e rm_X11_hoursOf s m ([.ref (ad 0), .int a0] : List Value).toArray below meth c H locs 0 0 (zQi (MW cs ad) D A0 below ([.ref (ad 0), .int a0] : List Value) s ((q, F, A, T) : Int32 × ZS) True) (F0 m 112 ls [.int y0, .int y1]) := by
            intro x1 x3 y0 y1 h H locs ls hl w
            unfold f_X11_hoursOf_112 at h
            refine lv_iadd S.1 S.2.1 dX11_hoursOf_112 ?_
            refine lv_istore_n (lv' := [(2, .int (y1 + y0)), (0, .ref (ad 0)), (1, .int x1), (3, .int x3)]) S.1 S.2.1 dX11_hoursOf_113 rfl hl (by decide) rfl (fun ls hl => ?_)
            refine lv_iinc (v := (x3 + (1 : Int32))) (lv' := [(3, .int (x3 + (1 : Int32))), (2, .int (y1 + y0)), (0, .ref (ad 0)), (1, .int x1)]) S.1 S.2.1 dX11_hoursOf_114 hl (k := 3) rfl rfl (by decide) rfl (fun ls hl => ?_)
            refine lv_goto (tgt := 9) S.1 S.2.1 dX11_hoursOf_117 (by decide) ?_
            exact ih9 _ _ _ h _ _ _ (lv_sub hl [2, 3, 1, 0] rfl) w
          refine lv_iload S.1 S.2.1 dX11_hoursOf_25 (lv_at hl 5 rfl) ?_
          refine lv_aload_n S.1 S.2.1 dX11_hoursOf_27 rfl (lv_at hl 0 rfl) ?_
          refine gM_0_9 S K w w737 dX11_hoursOf_28 ?_
          refine lv_iconst (v := 0) S.1 S.2.1 dX11_hoursOf_31 (by decide) ?_
          refine aM_8 S K w gk_0_2 dX11_hoursOf_32 ?_
          refine lv_icmp_ge (tgt := 101) S.1 S.2.1 dX11_hoursOf_33 (by decide) (fun c2 => ?_) (fun c2 => ?_)
          · have h := og_t c2 h
            refine lv_iload_n S.1 S.2.1 dX11_hoursOf_101 rfl (lv_at hl 2 rfl) ?_
            refine lv_iload S.1 S.2.1 dX11_hoursOf_102 (lv_at hl 4 rfl) ?_
            refine lv_if_eq (tgt := 111) S.1 S.2.1 dX11_hoursOf_104 (by decide) (fun c3 => ?_) (fun c3 => ?_)
            · have h := og_t c3 h
              refine lv_iconst (v := 0) S.1 S.2.1 dX11_hoursOf_111 (by decide) ?_
              exact j112 _ _ _ _ h _ _ _ (lv_sub hl [0, 1, 3] rfl) w
            · have h := og_f c3 h
              refine lv_iconst (v := 1) S.1 S.2.1 dX11_hoursOf_107 (by decide) ?_
              refine lv_goto (tgt := 112) S.1 S.2.1 dX11_hoursOf_108 (by decide) ?_
              exact j112 _ _ _ _ h _ _ _ (lv_sub hl [0, 1, 3] rfl) w
          · have h := og_f c2 h
            refine lv_iload S.1 S.2.1 dX11_hoursOf_36 (lv_at hl 4 rfl) ?_
            refine lv_if_ne (tgt := 88) S.1 S.2.1 dX11_hoursOf_38 (by decide) (fun c4 => ?_) (fun c4 => ?_)
            · have h := og_f c4 h
              refine lv_iconst (v := 1) S.1 S.2.1 dX11_hoursOf_88 (by decide) ?_
              refine lv_goto (tgt := 93) S.1 S.2.1 dX11_hoursOf_89 (by decide) ?_
              refine lv_istore (lv' := [(4, .int (1 : Int32)), (0, .ref (ad 0)), (1, .int x1), (2, .int x2), (3, .int x3), (5, .int x5)]) S.1 S.2.1 dX11_hoursOf_93 hl (by decide) rfl (fun ls hl => ?_)
              refine lv_iinc (v := (x5 + (1 : Int32))) (lv' := [(5, .int (x5 + (1 : Int32))), (4, .int (1 : Int32)), (0, .ref (ad 0)), (1, .int x1), (2, .int x2), (3, .int x3)]) S.1 S.2.1 dX11_hoursOf_95 hl (k := 5) rfl rfl (by decide) rfl (fun ls hl => ?_)
              refine lv_goto (tgt := 25) S.1 S.2.1 dX11_hoursOf_98 (by decide) ?_
              exact ih25 _ _ _ _ _ h _ _ _ (lv_sub hl [2, 3, 4, 5, 1, 0] rfl) w
            · have h := og_t c4 h
              refine lv_aload_n S.1 S.2.1 dX11_hoursOf_41 rfl (lv_at hl 0 rfl) ?_
              refine gM_0_24 S K w w752 dX11_hoursOf_42 ?_
              refine lv_iconst (v := 1) S.1 S.2.1 dX11_hoursOf_45 (by decide) ?_
              refine aM_15 S K w gk_1_102 dX11_hoursOf_46 ?_
              refine lv_iload S.1 S.2.1 dX11_hoursOf_47 (lv_at hl 5 rfl) ?_
              refine lv_ishr S.1 S.2.1 dX11_hoursOf_49 ?_
              refine lv_iconst (v := 1) S.1 S.2.1 dX11_hoursOf_50 (by decide) ?_
              refine lv_iand S.1 S.2.1 dX11_hoursOf_51 ?_
              refine lv_iconst (v := 1) S.1 S.2.1 dX11_hoursOf_52 (by decide) ?_
              refine lv_icmp_ne (tgt := 92) S.1 S.2.1 dX11_hoursOf_53 (by decide) (fun c5 => ?_) (fun c5 => ?_)
              · have h := og_f c5 h
                refine lv_iconst (v := 0) S.1 S.2.1 dX11_hoursOf_92 (by decide) ?_
                refine lv_istore (lv' := [(4, .int (0 : Int32)), (0, .ref (ad 0)), (1, .int x1), (2, .int x2), (3, .int x3), (5, .int x5)]) S.1 S.2.1 dX11_hoursOf_93 hl (by decide) rfl (fun ls hl => ?_)
                refine lv_iinc (v := (x5 + (1 : Int32))) (lv' := [(5, .int (x5 + (1 : Int32))), (4, .int (0 : Int32)), (0, .ref (ad 0)), (1, .int x1), (2, .int x2), (3, .int x3)]) S.1 S.2.1 dX11_hoursOf_95 hl (k := 5) rfl rfl (by decide) rfl (fun ls hl => ?_)
                refine lv_goto (tgt := 25) S.1 S.2.1 dX11_hoursOf_98 (by decide) ?_
                exact ih25 _ _ _ _ _ h _ _ _ (lv_sub hl [2, 3, 4, 5, 1, 0] rfl) w
              · have h := og_t c5 h
                refine lv_aload_n S.1 S.2.1 dX11_hoursOf_56 rfl (lv_at hl 0 rfl) ?_
                refine gM_0_10 S K w w738 dX11_hoursOf_57 ?_
                refine lv_iload S.1 S.2.1 dX11_hoursOf_60 (lv_at hl 5 rfl) ?_
                obtain ⟨g6, h⟩ := og_g h
                refine aM_9 S K w g6 dX11_hoursOf_62 ?_
                refine lv_iload_n S.1 S.2.1 dX11_hoursOf_63 rfl (lv_at hl 1 rfl) ?_
                refine lv_icmp_ne (tgt := 92) S.1 S.2.1 dX11_hoursOf_64 (by decide) (fun c7 => ?_) (fun c7 => ?_)
                · have h := og_f c7 h
                  refine lv_iconst (v := 0) S.1 S.2.1 dX11_hoursOf_92 (by decide) ?_
                  refine lv_istore (lv' := [(4, .int (0 : Int32)), (0, .ref (ad 0)), (1, .int x1), (2, .int x2), (3, .int x3), (5, .int x5)]) S.1 S.2.1 dX11_hoursOf_93 hl (by decide) rfl (fun ls hl => ?_)
                  refine lv_iinc (v := (x5 + (1 : Int32))) (lv' := [(5, .int (x5 + (1 : Int32))), (4, .int (0 : Int32)), (0, .ref (ad 0)), (1, .int x1), (2, .int x2), (3, .int x3)]) S.1 S.2.1 dX11_hoursOf_95 hl (k := 5) rfl rfl (by decide) rfl (fun ls hl => ?_)
                  refine lv_goto (tgt := 25) S.1 S.2.1 dX11_hoursOf_98 (by decide) ?_
                  exact ih25 _ _ _ _ _ h _ _ _ (lv_sub hl [2, 3, 4, 5, 1, 0] rfl) w
                · have h := og_t c7 h
                  refine lv_iload_n S.1 S.2.1 dX11_hoursOf_67 rfl (lv_at hl 3 rfl) ?_
                  refine lv_aload_n S.1 S.2.1 dX11_hoursOf_68 rfl (lv_at hl 0 rfl) ?_
                  refine gM_0_12 S K w w740 dX11_hoursOf_69 ?_
                  refine lv_iload S.1 S.2.1 dX11_hoursOf_72 (lv_at hl 5 rfl) ?_
                  obtain ⟨g8, h⟩ := og_g h
                  refine aM_11 S K w g8 dX11_hoursOf_74 ?_
                  refine lv_aload_n S.1 S.2.1 dX11_hoursOf_75 rfl (lv_at hl 0 rfl) ?_
                  refine gM_0_13 S K w w741 dX11_hoursOf_76 ?_
                  refine lv_iload S.1 S.2.1 dX11_hoursOf_79 (lv_at hl 5 rfl) ?_
                  obtain ⟨g9, h⟩ := og_g h
                  refine aM_12 S K w g9 dX11_hoursOf_81 ?_
                  refine z_callSr S K w hA (c_X11_in l D cs ad F A T x3 (A 11 (x5).toNatClampNeg) (A 12 (x5).toNatClampNeg) (f_X11_in x3 (A 11 (x5).toNatClampNeg) (A 12 (x5).toNatClampNeg)) rfl) (cw_X11_72 S.2.2.2.2 ⟨Nat.le_of_ble_eq_true rfl, Nat.le_of_ble_eq_true rfl⟩) rfl hl.1 rfl (Nat.le_of_ble_eq_true rfl) ⟨Nat.zero_le _, Nat.zero_le _⟩ dX11_hoursOf_82 (fun b10 H locs w => ?_)
                  refine lv_if_eq (tgt := 92) S.1 S.2.1 dX11_hoursOf_85 (by decide) (fun c11 => ?_) (fun c11 => ?_)
                  · have h := og_t c11 h
                    refine lv_iconst (v := 0) S.1 S.2.1 dX11_hoursOf_92 (by decide) ?_
                    refine lv_istore (lv' := [(4, .int (0 : Int32)), (0, .ref (ad 0)), (1, .int x1), (2, .int x2), (3, .int x3), (5, .int x5)]) S.1 S.2.1 dX11_hoursOf_93 hl (by decide) rfl (fun ls hl => ?_)
                    refine lv_iinc (v := (x5 + (1 : Int32))) (lv' := [(5, .int (x5 + (1 : Int32))), (4, .int (0 : Int32)), (0, .ref (ad 0)), (1, .int x1), (2, .int x2), (3, .int x3)]) S.1 S.2.1 dX11_hoursOf_95 hl (k := 5) rfl rfl (by decide) rfl (fun ls hl => ?_)
                    refine lv_goto (tgt := 25) S.1 S.2.1 dX11_hoursOf_98 (by decide) ?_
                    exact ih25 _ _ _ _ _ h _ _ _ (lv_sub hl [2, 3, 4, 5, 1, 0] rfl) w
                  · have h := og_f c11 h
                    refine lv_iconst (v := 1) S.1 S.2.1 dX11_hoursOf_88 (by decide) ?_
                    refine lv_goto (tgt := 93) S.1 S.2.1 dX11_hoursOf_89 (by decide) ?_
                    refine lv_istore (lv' := [(4, .int (1 : Int32)), (0, .ref (ad 0)), (1, .int x1), (2, .int x2), (3, .int x3), (5, .int x5)]) S.1 S.2.1 dX11_hoursOf_93 hl (by decide) rfl (fun ls hl => ?_)
                    refine lv_iinc (v := (x5 + (1 : Int32))) (lv' := [(5, .int (x5 + (1 : Int32))), (4, .int (1 : Int32)), (0, .ref (ad 0)), (1, .int x1), (2, .int x2), (3, .int x3)]) S.1 S.2.1 dX11_hoursOf_95 hl (k := 5) rfl rfl (by decide) rfl (fun ls hl => ?_)
                    refine lv_goto (tgt := 25) S.1 S.2.1 dX11_hoursOf_98 (by decide) ?_
                    exact ih25 _ _ _ _ _ h _ _ _ (lv_sub hl [2, 3, 4, 5, 1, 0] rfl) w
      refine lv_iload_n S.1 S.2.1 dX11_hoursOf_9 rfl (lv_at hl 3 rfl) ?_
      refine lv_aload_n S.1 S.2.1 dX11_hoursOf_10 rfl (lv_at hl 0 rfl) ?_
      refine gM_0_15 S K w w743 dX11_hoursOf_11 ?_
      refine lv_iconst (v := 0) S.1 S.2.1 dX11_hoursOf_14 (by decide) ?_
      refine aM_14 S K w gk_0_2 dX11_hoursOf_15 ?_
      refine lv_icmp_gt (tgt := 120) S.1 S.2.1 dX11_hoursOf_16 (by decide) (fun c1 => ?_) (fun c1 => ?_)
      · have h := og_t c1 h
        refine lv_iload_n S.1 S.2.1 dX11_hoursOf_120 rfl (lv_at hl 2 rfl) ?_
        exact z_reti S w hr hlk dX11_hoursOf_121 trivial (by rw [← Option.some.inj h])
      · have h := og_f c1 h
        refine lv_iconst (v := 0) S.1 S.2.1 dX11_hoursOf_19 (by decide) ?_
        refine lv_istore (lv' := [(4, .int (0 : Int32)), (0, .ref (ad 0)), (1, .int x1), (2, .int x2), (3, .int x3)]) S.1 S.2.1 dX11_hoursOf_20 hl (by decide) rfl (fun ls hl => ?_)
        refine lv_iconst (v := 0) S.1 S.2.1 dX11_hoursOf_22 (by decide) ?_
        refine lv_istore (lv' := [(5, .int (0 : Int32)), (4, .int (0 : Int32)), (0, .ref (ad 0)), (1, .int x1), (2, .int x2), (3, .int x3)]) S.1 S.2.1 dX11_hoursOf_23 hl (by decide) rfl (fun ls hl => ?_)
        exact j25 1000 _ _ _ _ _ h _ _ _ (lv_sub hl [2, 3, 4, 5, 1, 0] rfl) w
  refine lv_iconst (v := 0) S.1 S.2.1 dX11_hoursOf_0 (by decide) ?_
  refine lv_istore_n (lv' := [(2, .int (0 : Int32)), (0, .ref (ad 0)), (1, .int a0)]) S.1 S.2.1 dX11_hoursOf_1 rfl hl (by decide) rfl (fun ls hl => ?_)
  refine lv_aload_n S.1 S.2.1 dX11_hoursOf_2 rfl (lv_at hl 1 rfl) ?_
  refine gM_0_14 S K w w742 dX11_hoursOf_3 ?_
  refine lv_iconst (v := 0) S.1 S.2.1 dX11_hoursOf_6 (by decide) ?_
  refine aM_13 S K w gk_0_2 dX11_hoursOf_7 ?_
  refine lv_istore_n (lv' := [(3, .int (A 13 ((0 : Int32)).toNatClampNeg)), (2, .int (0 : Int32)), (0, .ref (ad 0)), (1, .int a0)]) S.1 S.2.1 dX11_hoursOf_8 rfl hl (by decide) rfl (fun ls hl => ?_)
  exact j9 1000 _ _ _ h _ _ _ (lv_sub hl [2, 3, 1, 0] rfl) w
set_option maxHeartbeats 4000000 in
set_option maxRecDepth 100000 in
theorem c_X11_heldBy (l : Launch) (D : va_G) (cs : Nat → ClassId) (ad : Nat → Nat) (F : ZF) (A : ZA) (T : Int64) (a0 a1 : Int32) (q : Int32) (h : f_X11_heldBy a0 a1 F A T = some q) : zMi l D cs (MW cs ad) yX11_heldBy cX11_heldBy 5 (some .int) rm_X11_heldBy ([.ref (ad 0), .int a0, .int a1] : List Value) F A T ((q, F, A, T) : Int32 × ZS) True := by
  refine z_enteri (by decide) (Nat.le_of_ble_eq_true rfl) ?_
  intro p e s m below meth c A0 ls S K w hA hr hlk hl
  have S : CallFix p m c cX11_heldBy 5 s ([.ref (ad 0), .int a0, .int a1] : List Value).toArray zWs RX11 := S
  have hl : lv_has ls 5 [(0, .ref (ad 0)), (1, .int a0), (2, .int a1)] := hl
  unfold f_X11_heldBy at h
  have j10 : ∀ (n10 : Nat) (x1 x2 x3 x4 : Int32), f_X11_heldBy_10 F A T n10 x1 x2 x3 x4 = some q → ∀ (H : Heap) (locs : List Loc) (ls : Array Slot), lv_has ls 5 [(0, .ref (ad 0)), (1, .int x1), (2, .int x2), (3, .int x3), (4, .int x4)] → ZW D A0 s.heap (MW cs ad F A T) H locs → W p l e rm_X11_heldBy s m ([.ref (ad 0), .int a0, .int a1] : List Value).toArray below meth c H locs 0 0 (zQi (MW cs ad) D A0 below ([.ref (ad 0), .int a0, .int a1] : List Value) s ((q, F, A, T) : Int32 × ZS) True) (F0 m 10 ls []) := by
    intro n10
    induction n10 with
    | zero =>
      intro x1 x2 x3 x4 h H locs ls hl w
      have h : (none : Option Int32) = some q := h
      cases h
    | succ n10 ih10 =>
      intro x1 x2 x3 x4 h H locs ls hl w
      rw [f_X11_heldBy_10_s] at h
      have j76 : ∀ (x1 y0 : Int32), f_X11_heldBy_76 F A T x1 y0 = some q → ∀ (H : Heap) (locs : List Loc) (ls : Array Slot), lv_has ls 5 [(0, .ref (ad 0)), (1, .int x1)] → ZW D A0 s.heap (MW cs ad F A T) H locs → W p l e rm_X11_heldBy s m ([.ref (ad 0), .int a0, .int a1] : List Value).toArray below meth c H locs 0 0 (zQi (MW cs ad) D A0 below ([.ref (ad 0), .int a0, .int a1] : List Value) s ((q, F, A, T) : Int32 × ZS) True) (F0 m 76 ls [.int y0]) := by
        intro x1 y0 h H locs ls hl w
        unfold f_X11_heldBy_76 at h
        refine lv_istore_n (lv' := [(3, .int y0), (0, .ref (ad 0)), (1, .int x1)]) S.1 S.2.1 dX11_heldBy_76 rfl hl (by decide) rfl (fun ls hl => ?_)
        refine lv_iload_n S.1 S.2.1 dX11_heldBy_77 rfl (lv_at hl 0 rfl) ?_
        refine lv_aload_n S.1 S.2.1 dX11_heldBy_78 rfl (lv_at hl 1 rfl) ?_
        refine lv_iload_n S.1 S.2.1 dX11_heldBy_79 rfl (lv_at hl 2 rfl) ?_
        obtain ⟨q7, e8, h⟩ := og_b h
        refine z_callVr S K w hA (c_X11_hoursOf l D cs ad F A T x1 q7 e8) (cw_X11_137 S.2.2.2.2 ⟨Nat.le_of_ble_eq_true rfl, Nat.le_of_ble_eq_true rfl⟩) (z_recv K w 0 11 rfl rfl) rfl hl.1 rfl (Nat.le_of_ble_eq_true rfl) ⟨Nat.zero_le _, Nat.zero_le _⟩ dX11_heldBy_80 (fun b6 H locs w => ?_)
        refine lv_isub S.1 S.2.1 dX11_heldBy_83 ?_
        refine lv_istore_n (lv' := [(3, .int (y0 - q7)), (0, .ref (ad 0)), (1, .int x1)]) S.1 S.2.1 dX11_heldBy_84 rfl hl (by decide) rfl (fun ls hl => ?_)
        refine lv_iload_n S.1 S.2.1 dX11_heldBy_85 rfl (lv_at hl 0 rfl) ?_
        refine lv_if_ge (tgt := 93) S.1 S.2.1 dX11_heldBy_86 (by decide) (fun c9 => ?_) (fun c9 => ?_)
        · have h := og_t c9 h
          refine lv_iload_n S.1 S.2.1 dX11_heldBy_93 rfl (lv_at hl 0 rfl) ?_
          exact z_reti S w hr hlk dX11_heldBy_94 trivial (by rw [← Option.some.inj h])
        · have h := og_f c9 h
          refine lv_iconst (v := 0) S.1 S.2.1 dX11_heldBy_89 (by decide) ?_
          refine lv_goto (tgt := 94) S.1 S.2.1 dX11_heldBy_90 (by decide) ?_
          exact z_reti S w hr hlk dX11_heldBy_94 trivial (by rw [← Option.some.inj h])
      have j59 : ∀ (x1 x2 x4 y0 y1 : Int32), f_X11_heldBy_59 F A T (f_X11_heldBy_10 F A T n10) x1 x2 x4 y0 y1 = some q → ∀ (H : Heap) (locs : List Loc) (ls : Array Slot), lv_has ls 5 [(0, .ref (ad 0)), (1, .int x1), (2, .int x2), (4, .int x4)] → ZW D A0 s.heap (MW cs ad F A T) H locs → W p l e rm_X11_heldBy s m ([.ref (ad 0), .int a0, .int a1] : List Value).toArray below meth c H locs 0 0 (zQi (MW cs ad) D A0 below ([.ref (ad 0), .int a0, .int a1] : List Value) s ((q, F, A, T) : Int32 × ZS) True) (F0 m 59 ls [.int y0, .int y1]) := by
        intro x1 x2 x4 y0 y1 h H locs ls hl w
        unfold f_X11_heldBy_59 at h
        refine lv_iadd S.1 S.2.1 dX11_heldBy_59 ?_
        refine lv_istore_n (lv' := [(3, .int (y1 + y0)), (0, .ref (ad 0)), (1, .int x1), (2, .int x2), (4, .int x4)]) S.1 S.2.1 dX11_heldBy_60 rfl hl (by decide) rfl (fun ls hl => ?_)
        refine lv_iinc (v := (x4 + (1 : Int32))) (lv' := [(4, .int (x4 + (1 : Int32))), (3, .int (y1 + y0)), (0, .ref (ad 0)), (1, .int x1), (2, .int x2)]) S.1 S.2.1 dX11_heldBy_61 hl (k := 4) rfl rfl (by decide) rfl (fun ls hl => ?_)
        refine lv_goto (tgt := 10) S.1 S.2.1 dX11_heldBy_64 (by decide) ?_
        exact ih10 _ _ _ _ h _ _ _ (lv_sub hl [2, 3, 4, 1, 0] rfl) w
      refine lv_iload S.1 S.2.1 dX11_heldBy_10 (lv_at hl 4 rfl) ?_
      refine lv_aload_n S.1 S.2.1 dX11_heldBy_12 rfl (lv_at hl 0 rfl) ?_
      refine gM_0_5 S K w w733 dX11_heldBy_13 ?_
      refine lv_iconst (v := 0) S.1 S.2.1 dX11_heldBy_16 (by decide) ?_
      refine aM_4 S K w gk_0_2 dX11_heldBy_17 ?_
      refine lv_icmp_ge (tgt := 67) S.1 S.2.1 dX11_heldBy_18 (by decide) (fun c1 => ?_) (fun c1 => ?_)
      · have h := og_t c1 h
        refine lv_iload_n S.1 S.2.1 dX11_heldBy_67 rfl (lv_at hl 3 rfl) ?_
        refine lv_if_ge (tgt := 75) S.1 S.2.1 dX11_heldBy_68 (by decide) (fun c2 => ?_) (fun c2 => ?_)
        · have h := og_t c2 h
          refine lv_iload_n S.1 S.2.1 dX11_heldBy_75 rfl (lv_at hl 3 rfl) ?_
          exact j76 _ _ h _ _ _ (lv_sub hl [0, 1] rfl) w
        · have h := og_f c2 h
          refine lv_iconst (v := 0) S.1 S.2.1 dX11_heldBy_71 (by decide) ?_
          refine lv_goto (tgt := 76) S.1 S.2.1 dX11_heldBy_72 (by decide) ?_
          exact j76 _ _ h _ _ _ (lv_sub hl [0, 1] rfl) w
      · have h := og_f c1 h
        refine lv_iload_n S.1 S.2.1 dX11_heldBy_21 rfl (lv_at hl 3 rfl) ?_
        refine lv_iload_n S.1 S.2.1 dX11_heldBy_22 rfl (lv_at hl 2 rfl) ?_
        refine lv_iload S.1 S.2.1 dX11_heldBy_23 (lv_at hl 4 rfl) ?_
        refine lv_ishr S.1 S.2.1 dX11_heldBy_25 ?_
        refine lv_iconst (v := 1) S.1 S.2.1 dX11_heldBy_26 (by decide) ?_
        refine lv_iand S.1 S.2.1 dX11_heldBy_27 ?_
        refine lv_iconst (v := 1) S.1 S.2.1 dX11_heldBy_28 (by decide) ?_
        refine lv_icmp_ne (tgt := 58) S.1 S.2.1 dX11_heldBy_29 (by decide) (fun c3 => ?_) (fun c3 => ?_)
        · have h := og_f c3 h
          refine lv_iconst (v := 0) S.1 S.2.1 dX11_heldBy_58 (by decide) ?_
          exact j59 _ _ _ _ _ h _ _ _ (lv_sub hl [0, 1, 2, 4] rfl) w
        · have h := og_t c3 h
          refine lv_aload_n S.1 S.2.1 dX11_heldBy_32 rfl (lv_at hl 0 rfl) ?_
          refine gM_0_8 S K w w736 dX11_heldBy_33 ?_
          refine lv_bipush (v := 6) S.1 S.2.1 dX11_heldBy_36 (by decide) ?_
          refine lv_iload S.1 S.2.1 dX11_heldBy_38 (lv_at hl 4 rfl) ?_
          refine lv_imul S.1 S.2.1 dX11_heldBy_40 ?_
          refine lv_iload_n S.1 S.2.1 dX11_heldBy_41 rfl (lv_at hl 1 rfl) ?_
          refine lv_iadd S.1 S.2.1 dX11_heldBy_42 ?_
          obtain ⟨g4, h⟩ := og_g h
          refine aM_7 S K w g4 dX11_heldBy_43 ?_
          refine lv_aload_n S.1 S.2.1 dX11_heldBy_44 rfl (lv_at hl 0 rfl) ?_
          refine gM_0_7 S K w w735 dX11_heldBy_45 ?_
          refine lv_iload S.1 S.2.1 dX11_heldBy_48 (lv_at hl 4 rfl) ?_
          obtain ⟨g5, h⟩ := og_g h
          refine aM_6 S K w g5 dX11_heldBy_50 ?_
          refine lv_imul S.1 S.2.1 dX11_heldBy_51 ?_
          refine lv_bipush (v := 10) S.1 S.2.1 dX11_heldBy_52 (by decide) ?_
          refine lv_idiv S.1 S.2.1 dX11_heldBy_54 nz_10 ?_
          refine lv_goto (tgt := 59) S.1 S.2.1 dX11_heldBy_55 (by decide) ?_
          exact j59 _ _ _ _ _ h _ _ _ (lv_sub hl [0, 1, 2, 4] rfl) w
  refine lv_aload_n S.1 S.2.1 dX11_heldBy_0 rfl (lv_at hl 0 rfl) ?_
  refine gM_0_4 S K w w732 dX11_heldBy_1 ?_
  refine lv_iload_n S.1 S.2.1 dX11_heldBy_4 rfl (lv_at hl 1 rfl) ?_
  obtain ⟨g10, h⟩ := og_g h
  refine aM_3 S K w g10 dX11_heldBy_5 ?_
  refine lv_istore_n (lv' := [(3, .int (A 3 (a0).toNatClampNeg)), (0, .ref (ad 0)), (1, .int a0), (2, .int a1)]) S.1 S.2.1 dX11_heldBy_6 rfl hl (by decide) rfl (fun ls hl => ?_)
  refine lv_iconst (v := 0) S.1 S.2.1 dX11_heldBy_7 (by decide) ?_
  refine lv_istore (lv' := [(4, .int (0 : Int32)), (3, .int (A 3 (a0).toNatClampNeg)), (0, .ref (ad 0)), (1, .int a0), (2, .int a1)]) S.1 S.2.1 dX11_heldBy_8 hl (by decide) rfl (fun ls hl => ?_)
  exact j10 1000 _ _ _ _ h _ _ _ (lv_sub hl [2, 3, 4, 1, 0] rfl) w
set_option maxHeartbeats 4000000 in
set_option maxRecDepth 100000 in
theorem c_X11_hold (l : Launch) (D : va_G) (cs : Nat → ClassId) (ad : Nat → Nat) (F : ZF) (A : ZA) (T : Int64) (a0 : Int32) (q : ZS) (h : f_X11_hold a0 F A T = some q) : zMv l D cs (MW cs ad) yX11_hold cX11_hold 3 none rm_X11_hold ([.ref (ad 0), .int a0] : List Value) F A T q := by
  refine z_enterv (by decide) (Nat.le_of_ble_eq_true rfl) ?_
  intro p e s m below meth c A0 ls S K w hA hr hlk hl
  have S : CallFix p m c cX11_hold 3 s ([.ref (ad 0), .int a0] : List Value).toArray zWs RX11 := S
  have hl : lv_has ls 3 [(0, .ref (ad 0)), (1, .int a0)] := hl
  unfold f_X11_hold at h
  have j7 : ∀ (n7 : Nat) (x1 x2 : Int32) (F : ZF) (A : ZA) (T : Int64), f_X11_hold_7 n7 x1 x2 F A T = some q → ∀ (H : Heap) (locs : List Loc) (ls : Array Slot), lv_has ls 3 [(0, .ref (ad 0)), (1, .int x1), (2, .int x2)] → ZW D A0 s.heap (MW cs ad F A T) H locs → W p l e rm_X11_hold s m ([.ref (ad 0), .int a0] : List Value).toArray below meth c H locs 0 0 (zQv (MW cs ad) D A0 below ([.ref (ad 0), .int a0] : List Value) s q) (F0 m 7 ls []) := by
    intro n7
    induction n7 with
    | zero =>
      intro x1 x2 F A T h H locs ls hl w
      have h : (none : Option ZS) = some q := h
      cases h
    | succ n7 ih7 =>
      intro x1 x2 F A T h H locs ls hl w
      rw [f_X11_hold_7_s] at h
      refine lv_iload_n S.1 S.2.1 dX11_hold_7 rfl (lv_at hl 2 rfl) ?_
      refine lv_aload_n S.1 S.2.1 dX11_hold_8 rfl (lv_at hl 0 rfl) ?_
      refine gM_0_3 S K w w731 dX11_hold_9 ?_
      refine lv_iconst (v := 0) S.1 S.2.1 dX11_hold_12 (by decide) ?_
      refine aM_2 S K w gk_0_2 dX11_hold_13 ?_
      refine lv_icmp_ge (tgt := 50) S.1 S.2.1 dX11_hold_14 (by decide) (fun c1 => ?_) (fun c1 => ?_)
      · have h := og_t c1 h
        exact z_retv S w hr hlk dX11_hold_50 (Option.some.inj h).symm
      · have h := og_f c1 h
        refine lv_aload_n S.1 S.2.1 dX11_hold_17 rfl (lv_at hl 0 rfl) ?_
        refine gM_0_26 S K w w754 dX11_hold_18 ?_
        refine lv_iload_n S.1 S.2.1 dX11_hold_21 rfl (lv_at hl 2 rfl) ?_
        refine lv_aload_n S.1 S.2.1 dX11_hold_22 rfl (lv_at hl 0 rfl) ?_
        refine lv_iload_n S.1 S.2.1 dX11_hold_23 rfl (lv_at hl 2 rfl) ?_
        refine lv_iload_n S.1 S.2.1 dX11_hold_24 rfl (lv_at hl 1 rfl) ?_
        obtain ⟨q3, e4, h⟩ := og_b h
        refine z_callVr S K w hA (c_X11_heldBy l D cs ad F A T x2 x1 q3 e4) (cw_X11_144 S.2.2.2.2 ⟨Nat.le_of_ble_eq_true rfl, Nat.le_of_ble_eq_true rfl⟩) (z_recv K w 0 11 rfl rfl) rfl hl.1 rfl (Nat.le_of_ble_eq_true rfl) ⟨Nat.zero_le _, Nat.zero_le _⟩ dX11_hold_25 (fun b2 H locs w => ?_)
        obtain ⟨g5, h⟩ := og_g h
        refine sM_17 S K w g5 dX11_hold_28 (fun H locs w => ?_)
        refine lv_aload_n S.1 S.2.1 dX11_hold_29 rfl (lv_at hl 0 rfl) ?_
        refine lv_dup S.1 S.2.1 dX11_hold_30 rfl ?_
        refine gM_0_27 S K w w755 dX11_hold_31 ?_
        refine lv_aload_n S.1 S.2.1 dX11_hold_34 rfl (lv_at hl 0 rfl) ?_
        refine gM_0_26 S K w w754 dX11_hold_35 ?_
        refine lv_iload_n S.1 S.2.1 dX11_hold_38 rfl (lv_at hl 2 rfl) ?_
        obtain ⟨g6, h⟩ := og_g h
        refine aM_17 S K w g6 dX11_hold_39 ?_
        refine lv_iadd S.1 S.2.1 dX11_hold_40 ?_
        refine pM_0_27 S K w w755 dX11_hold_41 (fun H locs w => ?_)
        refine lv_iinc (v := (x2 + (1 : Int32))) (lv' := [(2, .int (x2 + (1 : Int32))), (0, .ref (ad 0)), (1, .int x1)]) S.1 S.2.1 dX11_hold_44 hl (k := 2) rfl rfl (by decide) rfl (fun ls hl => ?_)
        refine lv_goto (tgt := 7) S.1 S.2.1 dX11_hold_47 (by decide) ?_
        exact ih7 _ _ _ _ _ h _ _ _ (lv_sub hl [1, 2, 0] rfl) w
  refine lv_aload_n S.1 S.2.1 dX11_hold_0 rfl (lv_at hl 0 rfl) ?_
  refine lv_iconst (v := 0) S.1 S.2.1 dX11_hold_1 (by decide) ?_
  refine pM_0_27 S K w w755 dX11_hold_2 (fun H locs w => ?_)
  refine lv_iconst (v := 0) S.1 S.2.1 dX11_hold_5 (by decide) ?_
  refine lv_istore_n (lv' := [(2, .int (0 : Int32)), (0, .ref (ad 0)), (1, .int a0)]) S.1 S.2.1 dX11_hold_6 rfl hl (by decide) rfl (fun ls hl => ?_)
  exact j7 1000 _ _ _ _ _ h _ _ _ (lv_sub hl [1, 2, 0] rfl) w
set_option maxHeartbeats 4000000 in
set_option maxRecDepth 100000 in
theorem c_X11_serve (l : Launch) (D : va_G) (cs : Nat → ClassId) (ad : Nat → Nat) (F : ZF) (A : ZA) (T : Int64) (q : ZS) (h : f_X11_serve F A T = some q) : zMv l D cs (MW cs ad) yX11_serve cX11_serve 6 none rm_X11_serve ([.ref (ad 0)] : List Value) F A T q := by
  refine z_enterv (by decide) (Nat.le_of_ble_eq_true rfl) ?_
  intro p e s m below meth c A0 ls S K w hA hr hlk hl
  have S : CallFix p m c cX11_serve 6 s ([.ref (ad 0)] : List Value).toArray zWs RX11 := S
  have hl : lv_has ls 6 [(0, .ref (ad 0))] := hl
  unfold f_X11_serve at h
  have j20 : ∀ (n20 : Nat) (x1 x2 : Int32) (F : ZF) (A : ZA) (T : Int64), f_X11_serve_20 n20 x1 x2 F A T = some q → ∀ (H : Heap) (locs : List Loc) (ls : Array Slot), lv_has ls 6 [(0, .ref (ad 0)), (1, .int x1), (2, .int x2)] → ZW D A0 s.heap (MW cs ad F A T) H locs → W p l e rm_X11_serve s m ([.ref (ad 0)] : List Value).toArray below meth c H locs 0 0 (zQv (MW cs ad) D A0 below ([.ref (ad 0)] : List Value) s q) (F0 m 20 ls []) := by
    intro n20
    induction n20 with
    | zero =>
      intro x1 x2 F A T h H locs ls hl w
      have h : (none : Option ZS) = some q := h
      cases h
    | succ n20 ih20 =>
      intro x1 x2 F A T h H locs ls hl w
      rw [f_X11_serve_20_s] at h
      have j82 : ∀ (n82 : Nat) (x1 x2 : Int32) (F : ZF) (A : ZA) (T : Int64), f_X11_serve_82 n82 x1 x2 F A T = some q → ∀ (H : Heap) (locs : List Loc) (ls : Array Slot), lv_has ls 6 [(0, .ref (ad 0)), (1, .int x1), (2, .int x2)] → ZW D A0 s.heap (MW cs ad F A T) H locs → W p l e rm_X11_serve s m ([.ref (ad 0)] : List Value).toArray below meth c H locs 0 0 (zQv (MW cs ad) D A0 below ([.ref (ad 0)] : List Value) s q) (F0 m 82 ls []) := by
        intro n82
        induction n82 with
        | zero =>
          intro x1 x2 F A T h H locs ls hl w
          have h : (none : Option ZS) = some q := h
          cases h
        | succ n82 ih82 =>
          intro x1 x2 F A T h H locs ls hl w
          rw [f_X11_serve_82_s] at h
          have j92 : ∀ (n92 : Nat) (x1 x2 x3 x4 : Int32) (F : ZF) (A : ZA) (T : Int64), f_X11_serve_92 (f_X11_serve_82 n82) n92 x1 x2 x3 x4 F A T = some q → ∀ (H : Heap) (locs : List Loc) (ls : Array Slot), lv_has ls 6 [(0, .ref (ad 0)), (1, .int x1), (2, .int x2), (3, .int x3), (4, .int x4)] → ZW D A0 s.heap (MW cs ad F A T) H locs → W p l e rm_X11_serve s m ([.ref (ad 0)] : List Value).toArray below meth c H locs 0 0 (zQv (MW cs ad) D A0 below ([.ref (ad 0)] : List Value) s q) (F0 m 92 ls []) := by
            intro n92
            induction n92 with
            | zero =>
              intro x1 x2 x3 x4 F A T h H locs ls hl w
              have h : (none : Option ZS) = some q := h
              cases h
            | succ n92 ih92 =>
              intro x1 x2 x3 x4 F A T h H locs ls hl w
              rw [f_X11_serve_92_s] at h
              have j117 : ∀ (x1 x2 x3 x4 y0 : Int32) (F : ZF) (A : ZA) (T : Int64), f_X11_serve_117 (f_X11_serve_82 n82) (f_X11_serve_92 (f_X11_serve_82 n82) n92) x1 x2 x3 x4 y0 F A T = some q → ∀ (H : Heap) (locs : List Loc) (ls : Array Slot), lv_has ls 6 [(0, .ref (ad 0)), (1, .int x1), (2, .int x2), (3, .int x3), (4, .int x4)] → ZW D A0 s.heap (MW cs ad F A T) H locs → W p l e rm_X11_serve s m ([.ref (ad 0)] : List Value).toArray below meth c H locs 0 0 (zQv (MW cs ad) D A0 below ([.ref (ad 0)] : List Value) s q) (F0 m 117 ls [.int y0]) := by
                intro x1 x2 x3 x4 y0 F A T h H locs ls hl w
                unfold f_X11_serve_117 at h
                refine lv_istore (lv' := [(5, .int y0), (0, .ref (ad 0)), (1, .int x1), (2, .int x2), (3, .int x3), (4, .int x4)]) S.1 S.2.1 dX11_serve_117 hl (by decide) rfl (fun ls hl => ?_)
                refine lv_iload S.1 S.2.1 dX11_serve_119 (lv_at hl 0 rfl) ?_
                refine lv_if_eq (tgt := 173) S.1 S.2.1 dX11_serve_121 (by decide) (fun c10 => ?_) (fun c10 => ?_)
                · have h := og_t c10 h
                  refine lv_iinc (v := (x4 + (1 : Int32))) (lv' := [(4, .int (x4 + (1 : Int32))), (5, .int y0), (0, .ref (ad 0)), (1, .int x1), (2, .int x2), (3, .int x3)]) S.1 S.2.1 dX11_serve_173 hl (k := 5) rfl rfl (by decide) rfl (fun ls hl => ?_)
                  refine lv_goto (tgt := 92) S.1 S.2.1 dX11_serve_176 (by decide) ?_
                  exact ih92 _ _ _ _ _ _ _ h _ _ _ (lv_sub hl [2, 3, 4, 5, 0] rfl) w
                · have h := og_f c10 h
                  refine lv_iload_n S.1 S.2.1 dX11_serve_124 rfl (lv_at hl 4 rfl) ?_
                  refine lv_bipush (v := -9) S.1 S.2.1 dX11_serve_125 (by decide) ?_
                  refine lv_icmp_eq (tgt := 170) S.1 S.2.1 dX11_serve_127 (by decide) (fun c11 => ?_) (fun c11 => ?_)
                  · have h := og_t c11 h
                    refine lv_iload S.1 S.2.1 dX11_serve_170 (lv_at hl 5 rfl) ?_
                    refine lv_istore_n (lv' := [(3, .int x4), (5, .int y0), (0, .ref (ad 0)), (1, .int x1), (2, .int x2), (4, .int x4)]) S.1 S.2.1 dX11_serve_172 rfl hl (by decide) rfl (fun ls hl => ?_)
                    refine lv_iinc (v := (x4 + (1 : Int32))) (lv' := [(4, .int (x4 + (1 : Int32))), (3, .int x4), (5, .int y0), (0, .ref (ad 0)), (1, .int x1), (2, .int x2)]) S.1 S.2.1 dX11_serve_173 hl (k := 5) rfl rfl (by decide) rfl (fun ls hl => ?_)
                    refine lv_goto (tgt := 92) S.1 S.2.1 dX11_serve_176 (by decide) ?_
                    exact ih92 _ _ _ _ _ _ _ h _ _ _ (lv_sub hl [3, 4, 5, 1, 0] rfl) w
                  · have h := og_f c11 h
                    refine lv_aload_n S.1 S.2.1 dX11_serve_130 rfl (lv_at hl 1 rfl) ?_
                    refine gM_0_24 S K w w752 dX11_serve_131 ?_
                    refine lv_iconst (v := 2) S.1 S.2.1 dX11_serve_134 (by decide) ?_
                    refine aM_15 S K w gk_2_102 dX11_serve_135 ?_
                    refine lv_aload_n S.1 S.2.1 dX11_serve_136 rfl (lv_at hl 1 rfl) ?_
                    refine gM_0_26 S K w w754 dX11_serve_137 ?_
                    refine lv_iload S.1 S.2.1 dX11_serve_140 (lv_at hl 5 rfl) ?_
                    obtain ⟨g12, h⟩ := og_g h
                    refine aM_17 S K w g12 dX11_serve_142 ?_
                    refine lv_imul S.1 S.2.1 dX11_serve_143 ?_
                    refine lv_aload_n S.1 S.2.1 dX11_serve_144 rfl (lv_at hl 1 rfl) ?_
                    refine gM_0_27 S K w w755 dX11_serve_145 ?_
                    obtain ⟨g13, h⟩ := og_d h
                    refine lv_irem S.1 S.2.1 dX11_serve_148 g13 ?_
                    refine lv_aload_n S.1 S.2.1 dX11_serve_149 rfl (lv_at hl 1 rfl) ?_
                    refine gM_0_24 S K w w752 dX11_serve_150 ?_
                    refine lv_iconst (v := 2) S.1 S.2.1 dX11_serve_153 (by decide) ?_
                    refine aM_15 S K w gk_2_102 dX11_serve_154 ?_
                    refine lv_aload_n S.1 S.2.1 dX11_serve_155 rfl (lv_at hl 1 rfl) ?_
                    refine gM_0_26 S K w w754 dX11_serve_156 ?_
                    refine lv_iload_n S.1 S.2.1 dX11_serve_159 rfl (lv_at hl 4 rfl) ?_
                    obtain ⟨g14, h⟩ := og_g h
                    refine aM_17 S K w g14 dX11_serve_160 ?_
                    refine lv_imul S.1 S.2.1 dX11_serve_161 ?_
                    refine lv_aload_n S.1 S.2.1 dX11_serve_162 rfl (lv_at hl 1 rfl) ?_
                    refine gM_0_27 S K w w755 dX11_serve_163 ?_
                    obtain ⟨g15, h⟩ := og_d h
                    refine lv_irem S.1 S.2.1 dX11_serve_166 g15 ?_
                    refine lv_icmp_le (tgt := 173) S.1 S.2.1 dX11_serve_167 (by decide) (fun c16 => ?_) (fun c16 => ?_)
                    · have h := og_t c16 h
                      refine lv_iinc (v := (x4 + (1 : Int32))) (lv' := [(4, .int (x4 + (1 : Int32))), (5, .int y0), (0, .ref (ad 0)), (1, .int x1), (2, .int x2), (3, .int x3)]) S.1 S.2.1 dX11_serve_173 hl (k := 5) rfl rfl (by decide) rfl (fun ls hl => ?_)
                      refine lv_goto (tgt := 92) S.1 S.2.1 dX11_serve_176 (by decide) ?_
                      exact ih92 _ _ _ _ _ _ _ h _ _ _ (lv_sub hl [2, 3, 4, 5, 0] rfl) w
                    · have h := og_f c16 h
                      refine lv_iload S.1 S.2.1 dX11_serve_170 (lv_at hl 5 rfl) ?_
                      refine lv_istore_n (lv' := [(3, .int x4), (5, .int y0), (0, .ref (ad 0)), (1, .int x1), (2, .int x2), (4, .int x4)]) S.1 S.2.1 dX11_serve_172 rfl hl (by decide) rfl (fun ls hl => ?_)
                      refine lv_iinc (v := (x4 + (1 : Int32))) (lv' := [(4, .int (x4 + (1 : Int32))), (3, .int x4), (5, .int y0), (0, .ref (ad 0)), (1, .int x1), (2, .int x2)]) S.1 S.2.1 dX11_serve_173 hl (k := 5) rfl rfl (by decide) rfl (fun ls hl => ?_)
                      refine lv_goto (tgt := 92) S.1 S.2.1 dX11_serve_176 (by decide) ?_
                      exact ih92 _ _ _ _ _ _ _ h _ _ _ (lv_sub hl [3, 4, 5, 1, 0] rfl) w
              refine lv_iload S.1 S.2.1 dX11_serve_92 (lv_at hl 4 rfl) ?_
              refine lv_aload_n S.1 S.2.1 dX11_serve_94 rfl (lv_at hl 0 rfl) ?_
              refine gM_0_3 S K w w731 dX11_serve_95 ?_
              refine lv_iconst (v := 0) S.1 S.2.1 dX11_serve_98 (by decide) ?_
              refine aM_2 S K w gk_0_2 dX11_serve_99 ?_
              refine lv_icmp_ge (tgt := 179) S.1 S.2.1 dX11_serve_100 (by decide) (fun c6 => ?_) (fun c6 => ?_)
              · have h := og_t c6 h
                refine lv_aload_n S.1 S.2.1 dX11_serve_179 rfl (lv_at hl 0 rfl) ?_
                refine gM_0_28 S K w w756 dX11_serve_180 ?_
                refine lv_iload_n S.1 S.2.1 dX11_serve_183 rfl (lv_at hl 3 rfl) ?_
                refine lv_dup2_11 S.1 S.2.1 dX11_serve_184 rfl rfl ?_
                obtain ⟨g7, h⟩ := og_g h
                refine aM_18 S K w g7 dX11_serve_185 ?_
                refine lv_iconst (v := 1) S.1 S.2.1 dX11_serve_186 (by decide) ?_
                refine lv_iadd S.1 S.2.1 dX11_serve_187 ?_
                obtain ⟨g8, h⟩ := og_g h
                refine sM_18 S K w g8 dX11_serve_188 (fun H locs w => ?_)
                refine lv_iload_n S.1 S.2.1 dX11_serve_189 rfl (lv_at hl 2 rfl) ?_
                refine lv_iconst (v := 1) S.1 S.2.1 dX11_serve_190 (by decide) ?_
                refine lv_iload_n S.1 S.2.1 dX11_serve_191 rfl (lv_at hl 3 rfl) ?_
                refine lv_ishl S.1 S.2.1 dX11_serve_192 ?_
                refine lv_ior S.1 S.2.1 dX11_serve_193 ?_
                refine lv_istore_n (lv' := [(2, .int (x2 ||| ((1 : Int32) <<< (x3 &&& 31)))), (0, .ref (ad 0)), (1, .int x1), (3, .int x3), (4, .int x4)]) S.1 S.2.1 dX11_serve_194 rfl hl (by decide) rfl (fun ls hl => ?_)
                refine lv_iinc (v := (x1 + (-1 : Int32))) (lv' := [(1, .int (x1 + (-1 : Int32))), (2, .int (x2 ||| ((1 : Int32) <<< (x3 &&& 31)))), (0, .ref (ad 0)), (3, .int x3), (4, .int x4)]) S.1 S.2.1 dX11_serve_195 hl (k := 2) rfl rfl (by decide) rfl (fun ls hl => ?_)
                refine lv_goto (tgt := 82) S.1 S.2.1 dX11_serve_198 (by decide) ?_
                exact ih82 _ _ _ _ _ h _ _ _ (lv_sub hl [2, 0, 1] rfl) w
              · have h := og_f c6 h
                refine lv_iload_n S.1 S.2.1 dX11_serve_103 rfl (lv_at hl 2 rfl) ?_
                refine lv_iload S.1 S.2.1 dX11_serve_104 (lv_at hl 4 rfl) ?_
                refine lv_ishr S.1 S.2.1 dX11_serve_106 ?_
                refine lv_iconst (v := 1) S.1 S.2.1 dX11_serve_107 (by decide) ?_
                refine lv_iand S.1 S.2.1 dX11_serve_108 ?_
                refine lv_if_ne (tgt := 116) S.1 S.2.1 dX11_serve_109 (by decide) (fun c9 => ?_) (fun c9 => ?_)
                · have h := og_f c9 h
                  refine lv_iconst (v := 0) S.1 S.2.1 dX11_serve_116 (by decide) ?_
                  exact j117 _ _ _ _ _ _ _ _ h _ _ _ (lv_sub hl [0, 1, 2, 3, 4] rfl) w
                · have h := og_t c9 h
                  refine lv_iconst (v := 1) S.1 S.2.1 dX11_serve_112 (by decide) ?_
                  refine lv_goto (tgt := 117) S.1 S.2.1 dX11_serve_113 (by decide) ?_
                  exact j117 _ _ _ _ _ _ _ _ h _ _ _ (lv_sub hl [0, 1, 2, 3, 4] rfl) w
          refine lv_iload_n S.1 S.2.1 dX11_serve_82 rfl (lv_at hl 1 rfl) ?_
          refine lv_if_le (tgt := 201) S.1 S.2.1 dX11_serve_83 (by decide) (fun c5 => ?_) (fun c5 => ?_)
          · have h := og_t c5 h
            exact z_retv S w hr hlk dX11_serve_201 (Option.some.inj h).symm
          · have h := og_f c5 h
            refine lv_bipush (v := -9) S.1 S.2.1 dX11_serve_86 (by decide) ?_
            refine lv_istore_n (lv' := [(3, .int (-9 : Int32)), (0, .ref (ad 0)), (1, .int x1), (2, .int x2)]) S.1 S.2.1 dX11_serve_88 rfl hl (by decide) rfl (fun ls hl => ?_)
            refine lv_iconst (v := 0) S.1 S.2.1 dX11_serve_89 (by decide) ?_
            refine lv_istore (lv' := [(4, .int (0 : Int32)), (3, .int (-9 : Int32)), (0, .ref (ad 0)), (1, .int x1), (2, .int x2)]) S.1 S.2.1 dX11_serve_90 hl (by decide) rfl (fun ls hl => ?_)
            exact j92 1000 _ _ _ _ _ _ _ h _ _ _ (lv_sub hl [2, 3, 4, 1, 0] rfl) w
      have j64 : ∀ (x1 x2 y0 y1 : Int32) (F : ZF) (A : ZA) (T : Int64), f_X11_serve_64 (f_X11_serve_20 n20) x1 x2 y0 y1 F A T = some q → ∀ (H : Heap) (locs : List Loc) (ls : Array Slot), lv_has ls 6 [(0, .ref (ad 0)), (1, .int x1), (2, .int x2)] → ZW D A0 s.heap (MW cs ad F A T) H locs → W p l e rm_X11_serve s m ([.ref (ad 0)] : List Value).toArray below meth c H locs 0 0 (zQv (MW cs ad) D A0 below ([.ref (ad 0)] : List Value) s q) (F0 m 64 ls [.int y0, .int y1, .ref (ad 18)]) := by
        intro x1 x2 y0 y1 F A T h H locs ls hl w
        unfold f_X11_serve_64 at h
        obtain ⟨g17, h⟩ := og_g h
        refine sM_18 S K w g17 dX11_serve_64 (fun H locs w => ?_)
        refine lv_iload_n S.1 S.2.1 dX11_serve_65 rfl (lv_at hl 1 rfl) ?_
        refine lv_aload_n S.1 S.2.1 dX11_serve_66 rfl (lv_at hl 0 rfl) ?_
        refine gM_0_28 S K w w756 dX11_serve_67 ?_
        refine lv_iload_n S.1 S.2.1 dX11_serve_70 rfl (lv_at hl 2 rfl) ?_
        obtain ⟨g18, h⟩ := og_g h
        refine aM_18 S K w g18 dX11_serve_71 ?_
        refine lv_isub S.1 S.2.1 dX11_serve_72 ?_
        refine lv_istore_n (lv' := [(1, .int (x1 - ((zst A 18 (y1).toNatClampNeg y0) 18 (x2).toNatClampNeg))), (0, .ref (ad 0)), (2, .int x2)]) S.1 S.2.1 dX11_serve_73 rfl hl (by decide) rfl (fun ls hl => ?_)
        refine lv_iinc (v := (x2 + (1 : Int32))) (lv' := [(2, .int (x2 + (1 : Int32))), (1, .int (x1 - ((zst A 18 (y1).toNatClampNeg y0) 18 (x2).toNatClampNeg))), (0, .ref (ad 0))]) S.1 S.2.1 dX11_serve_74 hl (k := 2) rfl rfl (by decide) rfl (fun ls hl => ?_)
        refine lv_goto (tgt := 20) S.1 S.2.1 dX11_serve_77 (by decide) ?_
        exact ih20 _ _ _ _ _ h _ _ _ (lv_sub hl [2, 1, 0] rfl) w
      refine lv_iload_n S.1 S.2.1 dX11_serve_20 rfl (lv_at hl 2 rfl) ?_
      refine lv_aload_n S.1 S.2.1 dX11_serve_21 rfl (lv_at hl 0 rfl) ?_
      refine gM_0_3 S K w w731 dX11_serve_22 ?_
      refine lv_iconst (v := 0) S.1 S.2.1 dX11_serve_25 (by decide) ?_
      refine aM_2 S K w gk_0_2 dX11_serve_26 ?_
      refine lv_icmp_ge (tgt := 80) S.1 S.2.1 dX11_serve_27 (by decide) (fun c1 => ?_) (fun c1 => ?_)
      · have h := og_t c1 h
        refine lv_iconst (v := 0) S.1 S.2.1 dX11_serve_80 (by decide) ?_
        refine lv_istore_n (lv' := [(2, .int (0 : Int32)), (0, .ref (ad 0)), (1, .int x1)]) S.1 S.2.1 dX11_serve_81 rfl hl (by decide) rfl (fun ls hl => ?_)
        exact j82 1000 _ _ _ _ _ h _ _ _ (lv_sub hl [1, 2, 0] rfl) w
      · have h := og_f c1 h
        refine lv_aload_n S.1 S.2.1 dX11_serve_30 rfl (lv_at hl 0 rfl) ?_
        refine gM_0_28 S K w w756 dX11_serve_31 ?_
        refine lv_iload_n S.1 S.2.1 dX11_serve_34 rfl (lv_at hl 2 rfl) ?_
        refine lv_aload_n S.1 S.2.1 dX11_serve_35 rfl (lv_at hl 0 rfl) ?_
        refine gM_0_27 S K w w755 dX11_serve_36 ?_
        refine lv_if_ne (tgt := 46) S.1 S.2.1 dX11_serve_39 (by decide) (fun c2 => ?_) (fun c2 => ?_)
        · have h := og_f c2 h
          refine lv_aload_n S.1 S.2.1 dX11_serve_46 rfl (lv_at hl 0 rfl) ?_
          refine gM_0_24 S K w w752 dX11_serve_47 ?_
          refine lv_iconst (v := 2) S.1 S.2.1 dX11_serve_50 (by decide) ?_
          refine aM_15 S K w gk_2_102 dX11_serve_51 ?_
          refine lv_aload_n S.1 S.2.1 dX11_serve_52 rfl (lv_at hl 0 rfl) ?_
          refine gM_0_26 S K w w754 dX11_serve_53 ?_
          refine lv_iload_n S.1 S.2.1 dX11_serve_56 rfl (lv_at hl 2 rfl) ?_
          obtain ⟨g3, h⟩ := og_g h
          refine aM_17 S K w g3 dX11_serve_57 ?_
          refine lv_imul S.1 S.2.1 dX11_serve_58 ?_
          refine lv_aload_n S.1 S.2.1 dX11_serve_59 rfl (lv_at hl 0 rfl) ?_
          refine gM_0_27 S K w w755 dX11_serve_60 ?_
          obtain ⟨g4, h⟩ := og_d h
          refine lv_idiv S.1 S.2.1 dX11_serve_63 g4 ?_
          exact j64 _ _ _ _ _ _ _ h _ _ _ (lv_sub hl [0, 1, 2] rfl) w
        · have h := og_t c2 h
          refine lv_iconst (v := 0) S.1 S.2.1 dX11_serve_42 (by decide) ?_
          refine lv_goto (tgt := 64) S.1 S.2.1 dX11_serve_43 (by decide) ?_
          exact j64 _ _ _ _ _ _ _ h _ _ _ (lv_sub hl [0, 1, 2] rfl) w
  refine lv_aload_n S.1 S.2.1 dX11_serve_0 rfl (lv_at hl 0 rfl) ?_
  refine gM_0_27 S K w w755 dX11_serve_1 ?_
  refine lv_if_ne (tgt := 11) S.1 S.2.1 dX11_serve_4 (by decide) (fun c19 => ?_) (fun c19 => ?_)
  · have h := og_f c19 h
    refine lv_aload_n S.1 S.2.1 dX11_serve_11 rfl (lv_at hl 0 rfl) ?_
    refine gM_0_24 S K w w752 dX11_serve_12 ?_
    refine lv_iconst (v := 2) S.1 S.2.1 dX11_serve_15 (by decide) ?_
    refine aM_15 S K w gk_2_102 dX11_serve_16 ?_
    refine lv_istore_n (lv' := [(1, .int (A 15 ((2 : Int32)).toNatClampNeg)), (0, .ref (ad 0))]) S.1 S.2.1 dX11_serve_17 rfl hl (by decide) rfl (fun ls hl => ?_)
    refine lv_iconst (v := 0) S.1 S.2.1 dX11_serve_18 (by decide) ?_
    refine lv_istore_n (lv' := [(2, .int (0 : Int32)), (1, .int (A 15 ((2 : Int32)).toNatClampNeg)), (0, .ref (ad 0))]) S.1 S.2.1 dX11_serve_19 rfl hl (by decide) rfl (fun ls hl => ?_)
    exact j20 1000 _ _ _ _ _ h _ _ _ (lv_sub hl [2, 1, 0] rfl) w
  · have h := og_t c19 h
    refine lv_iconst (v := 0) S.1 S.2.1 dX11_serve_7 (by decide) ?_
    refine lv_goto (tgt := 17) S.1 S.2.1 dX11_serve_8 (by decide) ?_
    refine lv_istore_n (lv' := [(1, .int (0 : Int32)), (0, .ref (ad 0))]) S.1 S.2.1 dX11_serve_17 rfl hl (by decide) rfl (fun ls hl => ?_)
    refine lv_iconst (v := 0) S.1 S.2.1 dX11_serve_18 (by decide) ?_
    refine lv_istore_n (lv' := [(2, .int (0 : Int32)), (1, .int (0 : Int32)), (0, .ref (ad 0))]) S.1 S.2.1 dX11_serve_19 rfl hl (by decide) rfl (fun ls hl => ?_)
    exact j20 1000 _ _ _ _ _ h _ _ _ (lv_sub hl [2, 1, 0] rfl) w
set_option maxHeartbeats 4000000 in
set_option maxRecDepth 100000 in
theorem c_X11_asNow (l : Launch) (D : va_G) (cs : Nat → ClassId) (ad : Nat → Nat) (F : ZF) (A : ZA) (T : Int64) (q : ZS) (h : f_X11_asNow F A T = some q) : zMv l D cs (MW cs ad) yX11_asNow cX11_asNow 1 none rm_X11_asNow ([.ref (ad 0)] : List Value) F A T q := by
  refine z_enterv (by decide) (Nat.le_of_ble_eq_true rfl) ?_
  intro p e s m below meth c A0 ls S K w hA hr hlk hl
  have S : CallFix p m c cX11_asNow 1 s ([.ref (ad 0)] : List Value).toArray zWs RX11 := S
  have hl : lv_has ls 1 [(0, .ref (ad 0))] := hl
  unfold f_X11_asNow at h
  refine lv_aload_n S.1 S.2.1 dX11_asNow_0 rfl (lv_at hl 0 rfl) ?_
  refine lv_aload_n S.1 S.2.1 dX11_asNow_1 rfl (lv_at hl 0 rfl) ?_
  refine gM_0_24 S K w w752 dX11_asNow_2 ?_
  refine lv_iconst (v := 0) S.1 S.2.1 dX11_asNow_5 (by decide) ?_
  refine aM_15 S K w gk_0_102 dX11_asNow_6 ?_
  obtain ⟨q1, e2, h⟩ := og_b h
  refine z_callVv S K w hA (c_X11_hold l D cs ad F A T (A 15 ((0 : Int32)).toNatClampNeg) q1 e2) (cw_X11_147 S.2.2.2.2 ⟨Nat.le_of_ble_eq_true rfl, Nat.le_of_ble_eq_true rfl⟩) (z_recv K w 0 11 rfl rfl) rfl hl.1 rfl (Nat.le_of_ble_eq_true rfl) ⟨Nat.zero_le _, Nat.zero_le _⟩ dX11_asNow_7 (fun H locs w => ?_)
  refine lv_aload_n S.1 S.2.1 dX11_asNow_10 rfl (lv_at hl 0 rfl) ?_
  obtain ⟨q3, e4, h⟩ := og_b h
  refine z_callVv S K w hA (c_X11_serve l D cs ad q1.1 q1.2.1 q1.2.2 q3 e4) (cw_X11_150 S.2.2.2.2 ⟨Nat.le_of_ble_eq_true rfl, Nat.le_of_ble_eq_true rfl⟩) (z_recv K w 0 11 rfl rfl) rfl hl.1 rfl (Nat.le_of_ble_eq_true rfl) ⟨Nat.zero_le _, Nat.zero_le _⟩ dX11_asNow_11 (fun H locs w => ?_)
  exact z_retv S w hr hlk dX11_asNow_14 (Option.some.inj h).symm
set_option maxHeartbeats 4000000 in
set_option maxRecDepth 100000 in
theorem c_X11_suspect (l : Launch) (D : va_G) (cs : Nat → ClassId) (ad : Nat → Nat) (F : ZF) (A : ZA) (T : Int64) (a0 a1 : Int32) (q : (Int32 × ZS)) (h : f_X11_suspect a0 a1 F A T = some q) : zMi l D cs (MW cs ad) yX11_suspect cX11_suspect 3 (some .int) rm_X11_suspect ([.ref (ad 0), .int a0, .int a1] : List Value) F A T q True := by
  refine z_enteri (by decide) (Nat.le_of_ble_eq_true rfl) ?_
  intro p e s m below meth c A0 ls S K w hA hr hlk hl
  have S : CallFix p m c cX11_suspect 3 s ([.ref (ad 0), .int a0, .int a1] : List Value).toArray zWs RX11 := S
  have hl : lv_has ls 3 [(0, .ref (ad 0)), (1, .int a0), (2, .int a1)] := hl
  unfold f_X11_suspect at h
  refine lv_aload_n S.1 S.2.1 dX11_suspect_0 rfl (lv_at hl 0 rfl) ?_
  refine lv_iload_n S.1 S.2.1 dX11_suspect_1 rfl (lv_at hl 1 rfl) ?_
  refine z_callVr S K w hA (c_X11_isSuspect l D cs ad F A T a0 (f_X11_isSuspect a0 F A T) rfl) (cw_X11_153 S.2.2.2.2 ⟨Nat.le_of_ble_eq_true rfl, Nat.le_of_ble_eq_true rfl⟩) (z_recv K w 0 11 rfl rfl) rfl hl.1 rfl (Nat.le_of_ble_eq_true rfl) ⟨Nat.zero_le _, Nat.zero_le _⟩ dX11_suspect_2 (fun b1 H locs w => ?_)
  refine lv_if_ne (tgt := 10) S.1 S.2.1 dX11_suspect_5 (by decide) (fun c2 => ?_) (fun c2 => ?_)
  · have h := og_f c2 h
    refine lv_aload_n S.1 S.2.1 dX11_suspect_10 rfl (lv_at hl 0 rfl) ?_
    obtain ⟨q3, e4, h⟩ := og_b h
    refine z_callVv S K w hA (c_X11_asNow l D cs ad F A T q3 e4) (cw_X11_156 S.2.2.2.2 ⟨Nat.le_of_ble_eq_true rfl, Nat.le_of_ble_eq_true rfl⟩) (z_recv K w 0 11 rfl rfl) rfl hl.1 rfl (Nat.le_of_ble_eq_true rfl) ⟨Nat.zero_le _, Nat.zero_le _⟩ dX11_suspect_11 (fun H locs w => ?_)
    refine lv_iload_n S.1 S.2.1 dX11_suspect_14 rfl (lv_at hl 2 rfl) ?_
    by_cases c5 : a1 = (0 : Int32)
    · have h := og_t c5 h
      refine lv_tableIn (tgt := 44) S.1 S.2.1 dX11_suspect_15 (by rw [c5]; decide) (by rw [c5]; decide) (off := 29) (by rw [c5]; decide) (by decide) ?_
      refine lv_aload_n S.1 S.2.1 dX11_suspect_44 rfl (lv_at hl 0 rfl) ?_
      refine gM_0_4 S K w w732 dX11_suspect_45 ?_
      refine lv_iload_n S.1 S.2.1 dX11_suspect_48 rfl (lv_at hl 1 rfl) ?_
      obtain ⟨g6, h⟩ := og_g h
      refine aM_3 S K w g6 dX11_suspect_49 ?_
      exact z_reti S w hr hlk dX11_suspect_50 trivial (Option.some.inj h).symm
    · have h := og_f c5 h
      by_cases c7 : a1 = (1 : Int32)
      · have h := og_t c7 h
        refine lv_tableIn (tgt := 51) S.1 S.2.1 dX11_suspect_15 (by rw [c7]; decide) (by rw [c7]; decide) (off := 36) (by rw [c7]; decide) (by decide) ?_
        refine lv_aload_n S.1 S.2.1 dX11_suspect_51 rfl (lv_at hl 0 rfl) ?_
        refine gM_0_26 S K w w754 dX11_suspect_52 ?_
        refine lv_iload_n S.1 S.2.1 dX11_suspect_55 rfl (lv_at hl 1 rfl) ?_
        obtain ⟨g8, h⟩ := og_g h
        refine aM_17 S K w g8 dX11_suspect_56 ?_
        exact z_reti S w hr hlk dX11_suspect_57 trivial (Option.some.inj h).symm
      · have h := og_f c7 h
        by_cases c9 : a1 = (2 : Int32)
        · have h := og_t c9 h
          refine lv_tableIn (tgt := 58) S.1 S.2.1 dX11_suspect_15 (by rw [c9]; decide) (by rw [c9]; decide) (off := 43) (by rw [c9]; decide) (by decide) ?_
          refine lv_aload_n S.1 S.2.1 dX11_suspect_58 rfl (lv_at hl 0 rfl) ?_
          refine gM_0_28 S K w w756 dX11_suspect_59 ?_
          refine lv_iload_n S.1 S.2.1 dX11_suspect_62 rfl (lv_at hl 1 rfl) ?_
          obtain ⟨g10, h⟩ := og_g h
          refine aM_18 S K w g10 dX11_suspect_63 ?_
          exact z_reti S w hr hlk dX11_suspect_64 trivial (Option.some.inj h).symm
        · have h := og_f c9 h
          by_cases c11 : a1 = (3 : Int32)
          · have h := og_t c11 h
            refine lv_tableIn (tgt := 65) S.1 S.2.1 dX11_suspect_15 (by rw [c11]; decide) (by rw [c11]; decide) (off := 50) (by rw [c11]; decide) (by decide) ?_
            refine lv_aload_n S.1 S.2.1 dX11_suspect_65 rfl (lv_at hl 0 rfl) ?_
            refine lv_iload_n S.1 S.2.1 dX11_suspect_66 rfl (lv_at hl 1 rfl) ?_
            obtain ⟨q13, e14, h⟩ := og_b h
            refine z_callVr S K w hA (c_X11_hoursOf l D cs ad q3.1 q3.2.1 q3.2.2 a0 q13 e14) (cw_X11_137 S.2.2.2.2 ⟨Nat.le_of_ble_eq_true rfl, Nat.le_of_ble_eq_true rfl⟩) (z_recv K w 0 11 rfl rfl) rfl hl.1 rfl (Nat.le_of_ble_eq_true rfl) ⟨Nat.zero_le _, Nat.zero_le _⟩ dX11_suspect_67 (fun b12 H locs w => ?_)
            exact z_reti S w hr hlk dX11_suspect_70 trivial (Option.some.inj h).symm
          · have h := og_f c11 h
            refine lv_tableOut (tgt := 71) S.1 S.2.1 dX11_suspect_15 (by have := lv_neT (k := (0 : Int32)) (a := 0) c5 (by decide); have := lv_neT (k := (1 : Int32)) (a := 1) c7 (by decide); have := lv_neT (k := (2 : Int32)) (a := 2) c9 (by decide); have := lv_neT (k := (3 : Int32)) (a := 3) c11 (by decide); omega) (by decide) ?_
            refine lv_iconst (v := -1) S.1 S.2.1 dX11_suspect_71 (by decide) ?_
            exact z_reti S w hr hlk dX11_suspect_72 trivial (Option.some.inj h).symm
  · have h := og_t c2 h
    refine lv_iconst (v := -1) S.1 S.2.1 dX11_suspect_8 (by decide) ?_
    exact z_reti S w hr hlk dX11_suspect_9 trivial (Option.some.inj h).symm
set_option maxHeartbeats 4000000 in
set_option maxRecDepth 100000 in
theorem c_X11_isFact (l : Launch) (D : va_G) (cs : Nat → ClassId) (ad : Nat → Nat) (F : ZF) (A : ZA) (T : Int64) (a0 : Int32) (q : Int32) (h : f_X11_isFact a0 F A T = q) : zMi l D cs (MW cs ad) yX11_isFact cX11_isFact 2 (some .boolean) rm_X11_isFact ([.ref (ad 0), .int a0] : List Value) F A T ((q, F, A, T) : Int32 × ZS) (((q, F, A, T) : Int32 × ZS).1 &&& 1 = ((q, F, A, T) : Int32 × ZS).1) := by
  refine z_enteri (by decide) (Nat.le_of_ble_eq_true rfl) ?_
  intro p e s m below meth c A0 ls S K w hA hr hlk hl
  have S : CallFix p m c cX11_isFact 2 s ([.ref (ad 0), .int a0] : List Value).toArray zWs RX11 := S
  have hl : lv_has ls 2 [(0, .ref (ad 0)), (1, .int a0)] := hl
  unfold f_X11_isFact at h
  refine lv_iload_n S.1 S.2.1 dX11_isFact_0 rfl (lv_at hl 1 rfl) ?_
  refine lv_iconst (v := 0) S.1 S.2.1 dX11_isFact_1 (by decide) ?_
  refine lv_aload_n S.1 S.2.1 dX11_isFact_2 rfl (lv_at hl 0 rfl) ?_
  refine gM_0_5 S K w w733 dX11_isFact_3 ?_
  refine lv_iconst (v := 0) S.1 S.2.1 dX11_isFact_6 (by decide) ?_
  refine aM_4 S K w gk_0_2 dX11_isFact_7 ?_
  refine lv_iconst (v := 1) S.1 S.2.1 dX11_isFact_8 (by decide) ?_
  refine lv_isub S.1 S.2.1 dX11_isFact_9 ?_
  refine z_callSr S K w hA (c_X11_in l D cs ad F A T a0 (0 : Int32) ((A 4 ((0 : Int32)).toNatClampNeg) - (1 : Int32)) (f_X11_in a0 (0 : Int32) ((A 4 ((0 : Int32)).toNatClampNeg) - (1 : Int32))) rfl) (cw_X11_72 S.2.2.2.2 ⟨Nat.le_of_ble_eq_true rfl, Nat.le_of_ble_eq_true rfl⟩) rfl hl.1 rfl (Nat.le_of_ble_eq_true rfl) ⟨Nat.zero_le _, Nat.zero_le _⟩ dX11_isFact_10 (fun b1 H locs w => ?_)
  exact z_retz S w hr hlk dX11_isFact_13 b1 (by rw [← h])
set_option maxHeartbeats 4000000 in
set_option maxRecDepth 100000 in
theorem c_X11_fact (l : Launch) (D : va_G) (cs : Nat → ClassId) (ad : Nat → Nat) (F : ZF) (A : ZA) (T : Int64) (a0 a1 : Int32) (q : Int32) (h : f_X11_fact a0 a1 F A T = some q) : zMi l D cs (MW cs ad) yX11_fact cX11_fact 3 (some .int) rm_X11_fact ([.ref (ad 0), .int a0, .int a1] : List Value) F A T ((q, F, A, T) : Int32 × ZS) True := by
  refine z_enteri (by decide) (Nat.le_of_ble_eq_true rfl) ?_
  intro p e s m below meth c A0 ls S K w hA hr hlk hl
  have S : CallFix p m c cX11_fact 3 s ([.ref (ad 0), .int a0, .int a1] : List Value).toArray zWs RX11 := S
  have hl : lv_has ls 3 [(0, .ref (ad 0)), (1, .int a0), (2, .int a1)] := hl
  unfold f_X11_fact at h
  refine lv_aload_n S.1 S.2.1 dX11_fact_0 rfl (lv_at hl 0 rfl) ?_
  refine lv_iload_n S.1 S.2.1 dX11_fact_1 rfl (lv_at hl 1 rfl) ?_
  refine z_callVr S K w hA (c_X11_isFact l D cs ad F A T a0 (f_X11_isFact a0 F A T) rfl) (cw_X11_159 S.2.2.2.2 ⟨Nat.le_of_ble_eq_true rfl, Nat.le_of_ble_eq_true rfl⟩) (z_recv K w 0 11 rfl rfl) rfl hl.1 rfl (Nat.le_of_ble_eq_true rfl) ⟨Nat.zero_le _, Nat.zero_le _⟩ dX11_fact_2 (fun b1 H locs w => ?_)
  refine lv_if_ne (tgt := 10) S.1 S.2.1 dX11_fact_5 (by decide) (fun c2 => ?_) (fun c2 => ?_)
  · have h := og_f c2 h
    refine lv_iload_n S.1 S.2.1 dX11_fact_10 rfl (lv_at hl 2 rfl) ?_
    refine lv_if_ne (tgt := 23) S.1 S.2.1 dX11_fact_11 (by decide) (fun c3 => ?_) (fun c3 => ?_)
    · have h := og_f c3 h
      refine lv_iload_n S.1 S.2.1 dX11_fact_23 rfl (lv_at hl 2 rfl) ?_
      refine lv_iconst (v := 1) S.1 S.2.1 dX11_fact_24 (by decide) ?_
      refine lv_icmp_ne (tgt := 37) S.1 S.2.1 dX11_fact_25 (by decide) (fun c4 => ?_) (fun c4 => ?_)
      · have h := og_f c4 h
        refine lv_iload_n S.1 S.2.1 dX11_fact_37 rfl (lv_at hl 2 rfl) ?_
        refine lv_iconst (v := 2) S.1 S.2.1 dX11_fact_38 (by decide) ?_
        refine lv_icmp_ne (tgt := 55) S.1 S.2.1 dX11_fact_39 (by decide) (fun c5 => ?_) (fun c5 => ?_)
        · have h := og_f c5 h
          refine lv_iconst (v := -1) S.1 S.2.1 dX11_fact_55 (by decide) ?_
          exact z_reti S w hr hlk dX11_fact_56 trivial (by rw [← Option.some.inj h])
        · have h := og_t c5 h
          refine lv_aload_n S.1 S.2.1 dX11_fact_42 rfl (lv_at hl 0 rfl) ?_
          refine gM_0_24 S K w w752 dX11_fact_43 ?_
          refine lv_iconst (v := 0) S.1 S.2.1 dX11_fact_46 (by decide) ?_
          refine aM_15 S K w gk_0_102 dX11_fact_47 ?_
          refine lv_iload_n S.1 S.2.1 dX11_fact_48 rfl (lv_at hl 1 rfl) ?_
          refine lv_ishr S.1 S.2.1 dX11_fact_49 ?_
          refine lv_iconst (v := 1) S.1 S.2.1 dX11_fact_50 (by decide) ?_
          refine lv_iand S.1 S.2.1 dX11_fact_51 ?_
          refine lv_goto (tgt := 56) S.1 S.2.1 dX11_fact_52 (by decide) ?_
          exact z_reti S w hr hlk dX11_fact_56 trivial (by rw [← Option.some.inj h])
      · have h := og_t c4 h
        refine lv_aload_n S.1 S.2.1 dX11_fact_28 rfl (lv_at hl 0 rfl) ?_
        refine gM_0_7 S K w w735 dX11_fact_29 ?_
        refine lv_iload_n S.1 S.2.1 dX11_fact_32 rfl (lv_at hl 1 rfl) ?_
        obtain ⟨g6, h⟩ := og_g h
        refine aM_6 S K w g6 dX11_fact_33 ?_
        refine lv_goto (tgt := 56) S.1 S.2.1 dX11_fact_34 (by decide) ?_
        exact z_reti S w hr hlk dX11_fact_56 trivial (by rw [← Option.some.inj h])
    · have h := og_t c3 h
      refine lv_aload_n S.1 S.2.1 dX11_fact_14 rfl (lv_at hl 0 rfl) ?_
      refine gM_0_6 S K w w734 dX11_fact_15 ?_
      refine lv_iload_n S.1 S.2.1 dX11_fact_18 rfl (lv_at hl 1 rfl) ?_
      obtain ⟨g7, h⟩ := og_g h
      refine aM_5 S K w g7 dX11_fact_19 ?_
      refine lv_goto (tgt := 56) S.1 S.2.1 dX11_fact_20 (by decide) ?_
      exact z_reti S w hr hlk dX11_fact_56 trivial (by rw [← Option.some.inj h])
  · have h := og_t c2 h
    refine lv_iconst (v := -1) S.1 S.2.1 dX11_fact_8 (by decide) ?_
    exact z_reti S w hr hlk dX11_fact_9 trivial (by rw [← Option.some.inj h])
set_option maxHeartbeats 4000000 in
set_option maxRecDepth 100000 in
theorem c_X11_moves (l : Launch) (D : va_G) (cs : Nat → ClassId) (ad : Nat → Nat) (F : ZF) (A : ZA) (T : Int64) (a0 a1 : Int32) (q : Int32) (h : f_X11_moves a0 a1 F A T = some q) : zMi l D cs (MW cs ad) yX11_moves cX11_moves 3 (some .int) rm_X11_moves ([.ref (ad 0), .int a0, .int a1] : List Value) F A T ((q, F, A, T) : Int32 × ZS) True := by
  refine z_enteri (by decide) (Nat.le_of_ble_eq_true rfl) ?_
  intro p e s m below meth c A0 ls S K w hA hr hlk hl
  have S : CallFix p m c cX11_moves 3 s ([.ref (ad 0), .int a0, .int a1] : List Value).toArray zWs RX11 := S
  have hl : lv_has ls 3 [(0, .ref (ad 0)), (1, .int a0), (2, .int a1)] := hl
  unfold f_X11_moves at h
  refine lv_aload_n S.1 S.2.1 dX11_moves_0 rfl (lv_at hl 0 rfl) ?_
  refine lv_iload_n S.1 S.2.1 dX11_moves_1 rfl (lv_at hl 1 rfl) ?_
  refine z_callVr S K w hA (c_X11_isFact l D cs ad F A T a0 (f_X11_isFact a0 F A T) rfl) (cw_X11_159 S.2.2.2.2 ⟨Nat.le_of_ble_eq_true rfl, Nat.le_of_ble_eq_true rfl⟩) (z_recv K w 0 11 rfl rfl) rfl hl.1 rfl (Nat.le_of_ble_eq_true rfl) ⟨Nat.zero_le _, Nat.zero_le _⟩ dX11_moves_2 (fun b1 H locs w => ?_)
  refine lv_if_eq (tgt := 30) S.1 S.2.1 dX11_moves_5 (by decide) (fun c2 => ?_) (fun c2 => ?_)
  · have h := og_t c2 h
    refine lv_ldc (v := -1000000) S.1 S.2.1 S.2.2.2.1 (S.2.2.2.2 _ w913) dX11_moves_30 ?_
    exact z_reti S w hr hlk dX11_moves_32 trivial (by rw [← Option.some.inj h])
  · have h := og_f c2 h
    refine lv_aload_n S.1 S.2.1 dX11_moves_8 rfl (lv_at hl 0 rfl) ?_
    refine lv_iload_n S.1 S.2.1 dX11_moves_9 rfl (lv_at hl 2 rfl) ?_
    refine z_callVr S K w hA (c_X11_isSuspect l D cs ad F A T a1 (f_X11_isSuspect a1 F A T) rfl) (cw_X11_153 S.2.2.2.2 ⟨Nat.le_of_ble_eq_true rfl, Nat.le_of_ble_eq_true rfl⟩) (z_recv K w 0 11 rfl rfl) rfl hl.1 rfl (Nat.le_of_ble_eq_true rfl) ⟨Nat.zero_le _, Nat.zero_le _⟩ dX11_moves_10 (fun b3 H locs w => ?_)
    refine lv_if_eq (tgt := 30) S.1 S.2.1 dX11_moves_13 (by decide) (fun c4 => ?_) (fun c4 => ?_)
    · have h := og_t c4 h
      refine lv_ldc (v := -1000000) S.1 S.2.1 S.2.2.2.1 (S.2.2.2.2 _ w913) dX11_moves_30 ?_
      exact z_reti S w hr hlk dX11_moves_32 trivial (by rw [← Option.some.inj h])
    · have h := og_f c4 h
      refine lv_aload_n S.1 S.2.1 dX11_moves_16 rfl (lv_at hl 0 rfl) ?_
      refine gM_0_8 S K w w736 dX11_moves_17 ?_
      refine lv_bipush (v := 6) S.1 S.2.1 dX11_moves_20 (by decide) ?_
      refine lv_iload_n S.1 S.2.1 dX11_moves_22 rfl (lv_at hl 1 rfl) ?_
      refine lv_imul S.1 S.2.1 dX11_moves_23 ?_
      refine lv_iload_n S.1 S.2.1 dX11_moves_24 rfl (lv_at hl 2 rfl) ?_
      refine lv_iadd S.1 S.2.1 dX11_moves_25 ?_
      obtain ⟨g5, h⟩ := og_g h
      refine aM_7 S K w g5 dX11_moves_26 ?_
      refine lv_goto (tgt := 32) S.1 S.2.1 dX11_moves_27 (by decide) ?_
      exact z_reti S w hr hlk dX11_moves_32 trivial (by rw [← Option.some.inj h])
set_option maxHeartbeats 4000000 in
set_option maxRecDepth 100000 in
theorem c_X11_isAlibi (l : Launch) (D : va_G) (cs : Nat → ClassId) (ad : Nat → Nat) (F : ZF) (A : ZA) (T : Int64) (a0 : Int32) (q : Int32) (h : f_X11_isAlibi a0 F A T = q) : zMi l D cs (MW cs ad) yX11_isAlibi cX11_isAlibi 2 (some .boolean) rm_X11_isAlibi ([.ref (ad 0), .int a0] : List Value) F A T ((q, F, A, T) : Int32 × ZS) (((q, F, A, T) : Int32 × ZS).1 &&& 1 = ((q, F, A, T) : Int32 × ZS).1) := by
  refine z_enteri (by decide) (Nat.le_of_ble_eq_true rfl) ?_
  intro p e s m below meth c A0 ls S K w hA hr hlk hl
  have S : CallFix p m c cX11_isAlibi 2 s ([.ref (ad 0), .int a0] : List Value).toArray zWs RX11 := S
  have hl : lv_has ls 2 [(0, .ref (ad 0)), (1, .int a0)] := hl
  unfold f_X11_isAlibi at h
  refine lv_iload_n S.1 S.2.1 dX11_isAlibi_0 rfl (lv_at hl 1 rfl) ?_
  refine lv_iconst (v := 0) S.1 S.2.1 dX11_isAlibi_1 (by decide) ?_
  refine lv_aload_n S.1 S.2.1 dX11_isAlibi_2 rfl (lv_at hl 0 rfl) ?_
  refine gM_0_9 S K w w737 dX11_isAlibi_3 ?_
  refine lv_iconst (v := 0) S.1 S.2.1 dX11_isAlibi_6 (by decide) ?_
  refine aM_8 S K w gk_0_2 dX11_isAlibi_7 ?_
  refine lv_iconst (v := 1) S.1 S.2.1 dX11_isAlibi_8 (by decide) ?_
  refine lv_isub S.1 S.2.1 dX11_isAlibi_9 ?_
  refine z_callSr S K w hA (c_X11_in l D cs ad F A T a0 (0 : Int32) ((A 8 ((0 : Int32)).toNatClampNeg) - (1 : Int32)) (f_X11_in a0 (0 : Int32) ((A 8 ((0 : Int32)).toNatClampNeg) - (1 : Int32))) rfl) (cw_X11_72 S.2.2.2.2 ⟨Nat.le_of_ble_eq_true rfl, Nat.le_of_ble_eq_true rfl⟩) rfl hl.1 rfl (Nat.le_of_ble_eq_true rfl) ⟨Nat.zero_le _, Nat.zero_le _⟩ dX11_isAlibi_10 (fun b1 H locs w => ?_)
  exact z_retz S w hr hlk dX11_isAlibi_13 b1 (by rw [← h])
set_option maxHeartbeats 4000000 in
set_option maxRecDepth 100000 in
theorem c_X11_alibi (l : Launch) (D : va_G) (cs : Nat → ClassId) (ad : Nat → Nat) (F : ZF) (A : ZA) (T : Int64) (a0 a1 : Int32) (q : Int32) (h : f_X11_alibi a0 a1 F A T = some q) : zMi l D cs (MW cs ad) yX11_alibi cX11_alibi 3 (some .int) rm_X11_alibi ([.ref (ad 0), .int a0, .int a1] : List Value) F A T ((q, F, A, T) : Int32 × ZS) True := by
  refine z_enteri (by decide) (Nat.le_of_ble_eq_true rfl) ?_
  intro p e s m below meth c A0 ls S K w hA hr hlk hl
  have S : CallFix p m c cX11_alibi 3 s ([.ref (ad 0), .int a0, .int a1] : List Value).toArray zWs RX11 := S
  have hl : lv_has ls 3 [(0, .ref (ad 0)), (1, .int a0), (2, .int a1)] := hl
  unfold f_X11_alibi at h
  refine lv_aload_n S.1 S.2.1 dX11_alibi_0 rfl (lv_at hl 0 rfl) ?_
  refine lv_iload_n S.1 S.2.1 dX11_alibi_1 rfl (lv_at hl 1 rfl) ?_
  refine z_callVr S K w hA (c_X11_isAlibi l D cs ad F A T a0 (f_X11_isAlibi a0 F A T) rfl) (cw_X11_163 S.2.2.2.2 ⟨Nat.le_of_ble_eq_true rfl, Nat.le_of_ble_eq_true rfl⟩) (z_recv K w 0 11 rfl rfl) rfl hl.1 rfl (Nat.le_of_ble_eq_true rfl) ⟨Nat.zero_le _, Nat.zero_le _⟩ dX11_alibi_2 (fun b1 H locs w => ?_)
  refine lv_if_ne (tgt := 10) S.1 S.2.1 dX11_alibi_5 (by decide) (fun c2 => ?_) (fun c2 => ?_)
  · have h := og_f c2 h
    refine lv_iload_n S.1 S.2.1 dX11_alibi_10 rfl (lv_at hl 2 rfl) ?_
    by_cases c3 : a1 = (0 : Int32)
    · have h := og_t c3 h
      refine lv_tableIn (tgt := 44) S.1 S.2.1 dX11_alibi_11 (by rw [c3]; decide) (by rw [c3]; decide) (off := 33) (by rw [c3]; decide) (by decide) ?_
      refine lv_aload_n S.1 S.2.1 dX11_alibi_44 rfl (lv_at hl 0 rfl) ?_
      refine gM_0_10 S K w w738 dX11_alibi_45 ?_
      refine lv_iload_n S.1 S.2.1 dX11_alibi_48 rfl (lv_at hl 1 rfl) ?_
      obtain ⟨g4, h⟩ := og_g h
      refine aM_9 S K w g4 dX11_alibi_49 ?_
      exact z_reti S w hr hlk dX11_alibi_50 trivial (by rw [← Option.some.inj h])
    · have h := og_f c3 h
      by_cases c5 : a1 = (1 : Int32)
      · have h := og_t c5 h
        refine lv_tableIn (tgt := 51) S.1 S.2.1 dX11_alibi_11 (by rw [c5]; decide) (by rw [c5]; decide) (off := 40) (by rw [c5]; decide) (by decide) ?_
        refine lv_aload_n S.1 S.2.1 dX11_alibi_51 rfl (lv_at hl 0 rfl) ?_
        refine gM_0_11 S K w w739 dX11_alibi_52 ?_
        refine lv_iload_n S.1 S.2.1 dX11_alibi_55 rfl (lv_at hl 1 rfl) ?_
        obtain ⟨g6, h⟩ := og_g h
        refine aM_10 S K w g6 dX11_alibi_56 ?_
        exact z_reti S w hr hlk dX11_alibi_57 trivial (by rw [← Option.some.inj h])
      · have h := og_f c5 h
        by_cases c7 : a1 = (2 : Int32)
        · have h := og_t c7 h
          refine lv_tableIn (tgt := 58) S.1 S.2.1 dX11_alibi_11 (by rw [c7]; decide) (by rw [c7]; decide) (off := 47) (by rw [c7]; decide) (by decide) ?_
          refine lv_aload_n S.1 S.2.1 dX11_alibi_58 rfl (lv_at hl 0 rfl) ?_
          refine gM_0_12 S K w w740 dX11_alibi_59 ?_
          refine lv_iload_n S.1 S.2.1 dX11_alibi_62 rfl (lv_at hl 1 rfl) ?_
          obtain ⟨g8, h⟩ := og_g h
          refine aM_11 S K w g8 dX11_alibi_63 ?_
          exact z_reti S w hr hlk dX11_alibi_64 trivial (by rw [← Option.some.inj h])
        · have h := og_f c7 h
          by_cases c9 : a1 = (3 : Int32)
          · have h := og_t c9 h
            refine lv_tableIn (tgt := 65) S.1 S.2.1 dX11_alibi_11 (by rw [c9]; decide) (by rw [c9]; decide) (off := 54) (by rw [c9]; decide) (by decide) ?_
            refine lv_aload_n S.1 S.2.1 dX11_alibi_65 rfl (lv_at hl 0 rfl) ?_
            refine gM_0_13 S K w w741 dX11_alibi_66 ?_
            refine lv_iload_n S.1 S.2.1 dX11_alibi_69 rfl (lv_at hl 1 rfl) ?_
            obtain ⟨g10, h⟩ := og_g h
            refine aM_12 S K w g10 dX11_alibi_70 ?_
            exact z_reti S w hr hlk dX11_alibi_71 trivial (by rw [← Option.some.inj h])
          · have h := og_f c9 h
            by_cases c11 : a1 = (4 : Int32)
            · have h := og_t c11 h
              refine lv_tableIn (tgt := 72) S.1 S.2.1 dX11_alibi_11 (by rw [c11]; decide) (by rw [c11]; decide) (off := 61) (by rw [c11]; decide) (by decide) ?_
              refine lv_aload_n S.1 S.2.1 dX11_alibi_72 rfl (lv_at hl 0 rfl) ?_
              refine gM_0_24 S K w w752 dX11_alibi_73 ?_
              refine lv_iconst (v := 1) S.1 S.2.1 dX11_alibi_76 (by decide) ?_
              refine aM_15 S K w gk_1_102 dX11_alibi_77 ?_
              refine lv_iload_n S.1 S.2.1 dX11_alibi_78 rfl (lv_at hl 1 rfl) ?_
              refine lv_ishr S.1 S.2.1 dX11_alibi_79 ?_
              refine lv_iconst (v := 1) S.1 S.2.1 dX11_alibi_80 (by decide) ?_
              refine lv_iand S.1 S.2.1 dX11_alibi_81 ?_
              exact z_reti S w hr hlk dX11_alibi_82 trivial (by rw [← Option.some.inj h])
            · have h := og_f c11 h
              refine lv_tableOut (tgt := 83) S.1 S.2.1 dX11_alibi_11 (by have := lv_neT (k := (0 : Int32)) (a := 0) c3 (by decide); have := lv_neT (k := (1 : Int32)) (a := 1) c5 (by decide); have := lv_neT (k := (2 : Int32)) (a := 2) c7 (by decide); have := lv_neT (k := (3 : Int32)) (a := 3) c9 (by decide); have := lv_neT (k := (4 : Int32)) (a := 4) c11 (by decide); omega) (by decide) ?_
              refine lv_iconst (v := -1) S.1 S.2.1 dX11_alibi_83 (by decide) ?_
              exact z_reti S w hr hlk dX11_alibi_84 trivial (by rw [← Option.some.inj h])
  · have h := og_t c2 h
    refine lv_iconst (v := -1) S.1 S.2.1 dX11_alibi_8 (by decide) ?_
    exact z_reti S w hr hlk dX11_alibi_9 trivial (by rw [← Option.some.inj h])
set_option maxHeartbeats 4000000 in
set_option maxRecDepth 100000 in
theorem c_X11_know (l : Launch) (D : va_G) (cs : Nat → ClassId) (ad : Nat → Nat) (F : ZF) (A : ZA) (T : Int64) (q : ZS) (h : f_X11_know F A T = some q) : zMv l D cs (MW cs ad) yX11_know cX11_know 2 none rm_X11_know ([.ref (ad 0)] : List Value) F A T q := by
  refine z_enterv (by decide) (Nat.le_of_ble_eq_true rfl) ?_
  intro p e s m below meth c A0 ls S K w hA hr hlk hl
  have S : CallFix p m c cX11_know 2 s ([.ref (ad 0)] : List Value).toArray zWs RX11 := S
  have hl : lv_has ls 2 [(0, .ref (ad 0))] := hl
  unfold f_X11_know at h
  have j54 : ∀ (n54 : Nat) (x1 : Int32) (F : ZF) (A : ZA) (T : Int64), f_X11_know_54 n54 x1 F A T = some q → ∀ (H : Heap) (locs : List Loc) (ls : Array Slot), lv_has ls 2 [(0, .ref (ad 0)), (1, .int x1)] → ZW D A0 s.heap (MW cs ad F A T) H locs → W p l e rm_X11_know s m ([.ref (ad 0)] : List Value).toArray below meth c H locs 0 0 (zQv (MW cs ad) D A0 below ([.ref (ad 0)] : List Value) s q) (F0 m 54 ls []) := by
    intro n54
    induction n54 with
    | zero =>
      intro x1 F A T h H locs ls hl w
      have h : (none : Option ZS) = some q := h
      cases h
    | succ n54 ih54 =>
      intro x1 F A T h H locs ls hl w
      rw [f_X11_know_54_s] at h
      refine lv_iload_n S.1 S.2.1 dX11_know_54 rfl (lv_at hl 1 rfl) ?_
      refine lv_iconst (v := 3) S.1 S.2.1 dX11_know_55 (by decide) ?_
      refine lv_icmp_ge (tgt := 88) S.1 S.2.1 dX11_know_56 (by decide) (fun c1 => ?_) (fun c1 => ?_)
      · have h := og_t c1 h
        refine lv_aload_n S.1 S.2.1 dX11_know_88 rfl (lv_at hl 0 rfl) ?_
        refine gM_0_24 S K w w752 dX11_know_89 ?_
        refine lv_iconst (v := 3) S.1 S.2.1 dX11_know_92 (by decide) ?_
        refine lv_dup2_11 S.1 S.2.1 dX11_know_93 rfl rfl ?_
        refine aM_15 S K w gk_3_102 dX11_know_94 ?_
        refine lv_iconst (v := 1) S.1 S.2.1 dX11_know_95 (by decide) ?_
        refine lv_iadd S.1 S.2.1 dX11_know_96 ?_
        refine sM_15 S K w gk_3_102 dX11_know_97 (fun H locs w => ?_)
        exact z_retv S w hr hlk dX11_know_98 (Option.some.inj h).symm
      · have h := og_f c1 h
        refine lv_aload_n S.1 S.2.1 dX11_know_59 rfl (lv_at hl 0 rfl) ?_
        refine gM_0_24 S K w w752 dX11_know_60 ?_
        refine lv_iconst (v := 4) S.1 S.2.1 dX11_know_63 (by decide) ?_
        refine lv_iconst (v := 3) S.1 S.2.1 dX11_know_64 (by decide) ?_
        refine lv_aload_n S.1 S.2.1 dX11_know_65 rfl (lv_at hl 0 rfl) ?_
        refine gM_0_24 S K w w752 dX11_know_66 ?_
        refine lv_iconst (v := 3) S.1 S.2.1 dX11_know_69 (by decide) ?_
        refine aM_15 S K w gk_3_102 dX11_know_70 ?_
        refine lv_imul S.1 S.2.1 dX11_know_71 ?_
        refine lv_iadd S.1 S.2.1 dX11_know_72 ?_
        refine lv_iload_n S.1 S.2.1 dX11_know_73 rfl (lv_at hl 1 rfl) ?_
        refine lv_iadd S.1 S.2.1 dX11_know_74 ?_
        refine lv_aload_n S.1 S.2.1 dX11_know_75 rfl (lv_at hl 0 rfl) ?_
        refine gM_0_24 S K w w752 dX11_know_76 ?_
        refine lv_iload_n S.1 S.2.1 dX11_know_79 rfl (lv_at hl 1 rfl) ?_
        obtain ⟨g2, h⟩ := og_g h
        refine aM_15 S K w g2 dX11_know_80 ?_
        obtain ⟨g3, h⟩ := og_g h
        refine sM_15 S K w g3 dX11_know_81 (fun H locs w => ?_)
        refine lv_iinc (v := (x1 + (1 : Int32))) (lv' := [(1, .int (x1 + (1 : Int32))), (0, .ref (ad 0))]) S.1 S.2.1 dX11_know_82 hl (k := 1) rfl rfl (by decide) rfl (fun ls hl => ?_)
        refine lv_goto (tgt := 54) S.1 S.2.1 dX11_know_85 (by decide) ?_
        exact ih54 _ _ _ _ h _ _ _ (lv_sub hl [1, 0] rfl) w
  have j13 : ∀ (n13 : Nat) (x1 : Int32) (F : ZF) (A : ZA) (T : Int64), f_X11_know_13 n13 x1 F A T = some q → ∀ (H : Heap) (locs : List Loc) (ls : Array Slot), lv_has ls 2 [(0, .ref (ad 0)), (1, .int x1)] → ZW D A0 s.heap (MW cs ad F A T) H locs → W p l e rm_X11_know s m ([.ref (ad 0)] : List Value).toArray below meth c H locs 0 0 (zQv (MW cs ad) D A0 below ([.ref (ad 0)] : List Value) s q) (F0 m 13 ls []) := by
    intro n13
    induction n13 with
    | zero =>
      intro x1 F A T h H locs ls hl w
      have h : (none : Option ZS) = some q := h
      cases h
    | succ n13 ih13 =>
      intro x1 F A T h H locs ls hl w
      rw [f_X11_know_13_s] at h
      refine lv_iload_n S.1 S.2.1 dX11_know_13 rfl (lv_at hl 1 rfl) ?_
      refine lv_bipush (v := 27) S.1 S.2.1 dX11_know_14 (by decide) ?_
      refine lv_icmp_ge (tgt := 42) S.1 S.2.1 dX11_know_16 (by decide) (fun c4 => ?_) (fun c4 => ?_)
      · have h := og_t c4 h
        refine lv_aload_n S.1 S.2.1 dX11_know_42 rfl (lv_at hl 0 rfl) ?_
        refine gM_0_24 S K w w752 dX11_know_43 ?_
        refine lv_iconst (v := 3) S.1 S.2.1 dX11_know_46 (by decide) ?_
        refine lv_dup2_11 S.1 S.2.1 dX11_know_47 rfl rfl ?_
        refine aM_15 S K w gk_3_102 dX11_know_48 ?_
        refine lv_iconst (v := 1) S.1 S.2.1 dX11_know_49 (by decide) ?_
        refine lv_isub S.1 S.2.1 dX11_know_50 ?_
        refine sM_15 S K w gk_3_102 dX11_know_51 (fun H locs w => ?_)
        refine lv_iconst (v := 0) S.1 S.2.1 dX11_know_52 (by decide) ?_
        refine lv_istore_n (lv' := [(1, .int (0 : Int32)), (0, .ref (ad 0))]) S.1 S.2.1 dX11_know_53 rfl hl (by decide) rfl (fun ls hl => ?_)
        exact j54 1000 _ _ _ _ h _ _ _ (lv_sub hl [1, 0] rfl) w
      · have h := og_f c4 h
        refine lv_aload_n S.1 S.2.1 dX11_know_19 rfl (lv_at hl 0 rfl) ?_
        refine gM_0_24 S K w w752 dX11_know_20 ?_
        refine lv_iconst (v := 4) S.1 S.2.1 dX11_know_23 (by decide) ?_
        refine lv_iload_n S.1 S.2.1 dX11_know_24 rfl (lv_at hl 1 rfl) ?_
        refine lv_iadd S.1 S.2.1 dX11_know_25 ?_
        refine lv_aload_n S.1 S.2.1 dX11_know_26 rfl (lv_at hl 0 rfl) ?_
        refine gM_0_24 S K w w752 dX11_know_27 ?_
        refine lv_bipush (v := 7) S.1 S.2.1 dX11_know_30 (by decide) ?_
        refine lv_iload_n S.1 S.2.1 dX11_know_32 rfl (lv_at hl 1 rfl) ?_
        refine lv_iadd S.1 S.2.1 dX11_know_33 ?_
        obtain ⟨g5, h⟩ := og_g h
        refine aM_15 S K w g5 dX11_know_34 ?_
        obtain ⟨g6, h⟩ := og_g h
        refine sM_15 S K w g6 dX11_know_35 (fun H locs w => ?_)
        refine lv_iinc (v := (x1 + (1 : Int32))) (lv' := [(1, .int (x1 + (1 : Int32))), (0, .ref (ad 0))]) S.1 S.2.1 dX11_know_36 hl (k := 1) rfl rfl (by decide) rfl (fun ls hl => ?_)
        refine lv_goto (tgt := 13) S.1 S.2.1 dX11_know_39 (by decide) ?_
        exact ih13 _ _ _ _ h _ _ _ (lv_sub hl [1, 0] rfl) w
  refine lv_aload_n S.1 S.2.1 dX11_know_0 rfl (lv_at hl 0 rfl) ?_
  refine gM_0_24 S K w w752 dX11_know_1 ?_
  refine lv_iconst (v := 3) S.1 S.2.1 dX11_know_4 (by decide) ?_
  refine aM_15 S K w gk_3_102 dX11_know_5 ?_
  refine lv_bipush (v := 10) S.1 S.2.1 dX11_know_6 (by decide) ?_
  refine lv_icmp_ne (tgt := 52) S.1 S.2.1 dX11_know_8 (by decide) (fun c7 => ?_) (fun c7 => ?_)
  · have h := og_f c7 h
    refine lv_iconst (v := 0) S.1 S.2.1 dX11_know_52 (by decide) ?_
    refine lv_istore_n (lv' := [(1, .int (0 : Int32)), (0, .ref (ad 0))]) S.1 S.2.1 dX11_know_53 rfl hl (by decide) rfl (fun ls hl => ?_)
    exact j54 1000 _ _ _ _ h _ _ _ (lv_sub hl [1, 0] rfl) w
  · have h := og_t c7 h
    refine lv_iconst (v := 0) S.1 S.2.1 dX11_know_11 (by decide) ?_
    refine lv_istore_n (lv' := [(1, .int (0 : Int32)), (0, .ref (ad 0))]) S.1 S.2.1 dX11_know_12 rfl hl (by decide) rfl (fun ls hl => ?_)
    exact j13 1000 _ _ _ _ h _ _ _ (lv_sub hl [1, 0] rfl) w
set_option maxHeartbeats 4000000 in
set_option maxRecDepth 100000 in
theorem c_X11_theCase (l : Launch) (D : va_G) (cs : Nat → ClassId) (ad : Nat → Nat) (F : ZF) (A : ZA) (T : Int64) (q : (Int32 × ZS)) (h : f_X11_theCase F A T = some q) : zMi l D cs (MW cs ad) yX11_theCase cX11_theCase 1 (some .int) rm_X11_theCase ([.ref (ad 0)] : List Value) F A T q True := by
  refine z_enteri (by decide) (Nat.le_of_ble_eq_true rfl) ?_
  intro p e s m below meth c A0 ls S K w hA hr hlk hl
  have S : CallFix p m c cX11_theCase 1 s ([.ref (ad 0)] : List Value).toArray zWs RX11 := S
  have hl : lv_has ls 1 [(0, .ref (ad 0))] := hl
  unfold f_X11_theCase at h
  refine lv_aload_n S.1 S.2.1 dX11_theCase_0 rfl (lv_at hl 0 rfl) ?_
  refine lv_aload_n S.1 S.2.1 dX11_theCase_1 rfl (lv_at hl 0 rfl) ?_
  refine gM_0_24 S K w w752 dX11_theCase_2 ?_
  refine lv_iconst (v := 0) S.1 S.2.1 dX11_theCase_5 (by decide) ?_
  refine aM_15 S K w gk_0_102 dX11_theCase_6 ?_
  obtain ⟨q1, e2, h⟩ := og_b h
  refine z_callVv S K w hA (c_X11_hold l D cs ad F A T (A 15 ((0 : Int32)).toNatClampNeg) q1 e2) (cw_X11_147 S.2.2.2.2 ⟨Nat.le_of_ble_eq_true rfl, Nat.le_of_ble_eq_true rfl⟩) (z_recv K w 0 11 rfl rfl) rfl hl.1 rfl (Nat.le_of_ble_eq_true rfl) ⟨Nat.zero_le _, Nat.zero_le _⟩ dX11_theCase_7 (fun H locs w => ?_)
  refine lv_aload_n S.1 S.2.1 dX11_theCase_10 rfl (lv_at hl 0 rfl) ?_
  refine gM_0_27 S K w w755 dX11_theCase_11 ?_
  exact z_reti S w hr hlk dX11_theCase_14 trivial (Option.some.inj h).symm
set_option maxHeartbeats 4000000 in
set_option maxRecDepth 100000 in
theorem c_X11_find (l : Launch) (D : va_G) (cs : Nat → ClassId) (ad : Nat → Nat) (F : ZF) (A : ZA) (T : Int64) (a0 a1 : Int32) (q : (Int32 × ZS)) (h : f_X11_find a0 a1 F A T = some q) : zMi l D cs (MW cs ad) yX11_find cX11_find 3 (some .int) rm_X11_find ([.ref (ad 0), .int a0, .int a1] : List Value) F A T q True := by
  refine z_enteri (by decide) (Nat.le_of_ble_eq_true rfl) ?_
  intro p e s m below meth c A0 ls S K w hA hr hlk hl
  have S : CallFix p m c cX11_find 3 s ([.ref (ad 0), .int a0, .int a1] : List Value).toArray zWs RX11 := S
  have hl : lv_has ls 3 [(0, .ref (ad 0)), (1, .int a0), (2, .int a1)] := hl
  unfold f_X11_find at h
  refine lv_aload_n S.1 S.2.1 dX11_find_0 rfl (lv_at hl 0 rfl) ?_
  refine lv_iload_n S.1 S.2.1 dX11_find_1 rfl (lv_at hl 1 rfl) ?_
  refine z_callVr S K w hA (c_X11_isFact l D cs ad F A T a0 (f_X11_isFact a0 F A T) rfl) (cw_X11_159 S.2.2.2.2 ⟨Nat.le_of_ble_eq_true rfl, Nat.le_of_ble_eq_true rfl⟩) (z_recv K w 0 11 rfl rfl) rfl hl.1 rfl (Nat.le_of_ble_eq_true rfl) ⟨Nat.zero_le _, Nat.zero_le _⟩ dX11_find_2 (fun b1 H locs w => ?_)
  refine lv_if_eq (tgt := 17) S.1 S.2.1 dX11_find_5 (by decide) (fun c2 => ?_) (fun c2 => ?_)
  · have h := og_t c2 h
    refine lv_iconst (v := -1) S.1 S.2.1 dX11_find_17 (by decide) ?_
    exact z_reti S w hr hlk dX11_find_18 trivial (Option.some.inj h).symm
  · have h := og_f c2 h
    refine lv_iload_n S.1 S.2.1 dX11_find_8 rfl (lv_at hl 2 rfl) ?_
    refine lv_iconst (v := 0) S.1 S.2.1 dX11_find_9 (by decide) ?_
    refine lv_iconst (v := 1) S.1 S.2.1 dX11_find_10 (by decide) ?_
    refine z_callSr S K w hA (c_X11_in l D cs ad F A T a1 (0 : Int32) (1 : Int32) (f_X11_in a1 (0 : Int32) (1 : Int32)) rfl) (cw_X11_72 S.2.2.2.2 ⟨Nat.le_of_ble_eq_true rfl, Nat.le_of_ble_eq_true rfl⟩) rfl hl.1 rfl (Nat.le_of_ble_eq_true rfl) ⟨Nat.zero_le _, Nat.zero_le _⟩ dX11_find_11 (fun b3 H locs w => ?_)
    refine lv_if_ne (tgt := 19) S.1 S.2.1 dX11_find_14 (by decide) (fun c4 => ?_) (fun c4 => ?_)
    · have h := og_f c4 h
      refine lv_aload_n S.1 S.2.1 dX11_find_19 rfl (lv_at hl 0 rfl) ?_
      refine gM_0_24 S K w w752 dX11_find_20 ?_
      refine lv_iconst (v := 0) S.1 S.2.1 dX11_find_23 (by decide) ?_
      refine aM_15 S K w gk_0_102 dX11_find_24 ?_
      refine lv_iload_n S.1 S.2.1 dX11_find_25 rfl (lv_at hl 1 rfl) ?_
      refine lv_ishr S.1 S.2.1 dX11_find_26 ?_
      refine lv_iconst (v := 1) S.1 S.2.1 dX11_find_27 (by decide) ?_
      refine lv_iand S.1 S.2.1 dX11_find_28 ?_
      refine lv_iload_n S.1 S.2.1 dX11_find_29 rfl (lv_at hl 2 rfl) ?_
      refine lv_icmp_ne (tgt := 36) S.1 S.2.1 dX11_find_30 (by decide) (fun c5 => ?_) (fun c5 => ?_)
      · have h := og_f c5 h
        refine lv_aload_n S.1 S.2.1 dX11_find_36 rfl (lv_at hl 0 rfl) ?_
        obtain ⟨q6, e7, h⟩ := og_b h
        refine z_callVv S K w hA (c_X11_know l D cs ad F A T q6 e7) (cw_X11_166 S.2.2.2.2 ⟨Nat.le_of_ble_eq_true rfl, Nat.le_of_ble_eq_true rfl⟩) (z_recv K w 0 11 rfl rfl) rfl hl.1 rfl (Nat.le_of_ble_eq_true rfl) ⟨Nat.zero_le _, Nat.zero_le _⟩ dX11_find_37 (fun H locs w => ?_)
        refine lv_aload_n S.1 S.2.1 dX11_find_40 rfl (lv_at hl 0 rfl) ?_
        refine gM_0_24 S K w w752 dX11_find_41 ?_
        refine lv_iconst (v := 0) S.1 S.2.1 dX11_find_44 (by decide) ?_
        refine lv_dup2_11 S.1 S.2.1 dX11_find_45 rfl rfl ?_
        refine aM_15 S K w gk_0_102 dX11_find_46 ?_
        refine lv_iconst (v := 1) S.1 S.2.1 dX11_find_47 (by decide) ?_
        refine lv_iload_n S.1 S.2.1 dX11_find_48 rfl (lv_at hl 1 rfl) ?_
        refine lv_ishl S.1 S.2.1 dX11_find_49 ?_
        refine lv_ixor S.1 S.2.1 dX11_find_50 ?_
        refine sM_15 S K w gk_0_102 dX11_find_51 (fun H locs w => ?_)
        refine lv_aload_n S.1 S.2.1 dX11_find_52 rfl (lv_at hl 0 rfl) ?_
        obtain ⟨q9, e10, h⟩ := og_b h
        refine z_callVi S K w hA (c_X11_theCase l D cs ad q6.1 (zst q6.2.1 15 ((0 : Int32)).toNatClampNeg ((q6.2.1 15 ((0 : Int32)).toNatClampNeg) ^^^ ((1 : Int32) <<< (a0 &&& 31)))) q6.2.2 q9 e10) (cw_X11_169 S.2.2.2.2 ⟨Nat.le_of_ble_eq_true rfl, Nat.le_of_ble_eq_true rfl⟩) (z_recv K w 0 11 rfl rfl) rfl hl.1 rfl (Nat.le_of_ble_eq_true rfl) ⟨Nat.zero_le _, Nat.zero_le _⟩ dX11_find_53 (fun b8 H locs w => ?_)
        exact z_reti S w hr hlk dX11_find_56 trivial (Option.some.inj h).symm
      · have h := og_t c5 h
        refine lv_bipush (v := -2) S.1 S.2.1 dX11_find_33 (by decide) ?_
        exact z_reti S w hr hlk dX11_find_35 trivial (Option.some.inj h).symm
    · have h := og_t c4 h
      refine lv_iconst (v := -1) S.1 S.2.1 dX11_find_17 (by decide) ?_
      exact z_reti S w hr hlk dX11_find_18 trivial (Option.some.inj h).symm
set_option maxHeartbeats 4000000 in
set_option maxRecDepth 100000 in
theorem c_X11_hear (l : Launch) (D : va_G) (cs : Nat → ClassId) (ad : Nat → Nat) (F : ZF) (A : ZA) (T : Int64) (a0 a1 : Int32) (q : (Int32 × ZS)) (h : f_X11_hear a0 a1 F A T = some q) : zMi l D cs (MW cs ad) yX11_hear cX11_hear 3 (some .int) rm_X11_hear ([.ref (ad 0), .int a0, .int a1] : List Value) F A T q True := by
  refine z_enteri (by decide) (Nat.le_of_ble_eq_true rfl) ?_
  intro p e s m below meth c A0 ls S K w hA hr hlk hl
  have S : CallFix p m c cX11_hear 3 s ([.ref (ad 0), .int a0, .int a1] : List Value).toArray zWs RX11 := S
  have hl : lv_has ls 3 [(0, .ref (ad 0)), (1, .int a0), (2, .int a1)] := hl
  unfold f_X11_hear at h
  refine lv_aload_n S.1 S.2.1 dX11_hear_0 rfl (lv_at hl 0 rfl) ?_
  refine lv_iload_n S.1 S.2.1 dX11_hear_1 rfl (lv_at hl 1 rfl) ?_
  refine z_callVr S K w hA (c_X11_isAlibi l D cs ad F A T a0 (f_X11_isAlibi a0 F A T) rfl) (cw_X11_163 S.2.2.2.2 ⟨Nat.le_of_ble_eq_true rfl, Nat.le_of_ble_eq_true rfl⟩) (z_recv K w 0 11 rfl rfl) rfl hl.1 rfl (Nat.le_of_ble_eq_true rfl) ⟨Nat.zero_le _, Nat.zero_le _⟩ dX11_hear_2 (fun b1 H locs w => ?_)
  refine lv_if_eq (tgt := 17) S.1 S.2.1 dX11_hear_5 (by decide) (fun c2 => ?_) (fun c2 => ?_)
  · have h := og_t c2 h
    refine lv_iconst (v := -1) S.1 S.2.1 dX11_hear_17 (by decide) ?_
    exact z_reti S w hr hlk dX11_hear_18 trivial (Option.some.inj h).symm
  · have h := og_f c2 h
    refine lv_iload_n S.1 S.2.1 dX11_hear_8 rfl (lv_at hl 2 rfl) ?_
    refine lv_iconst (v := 0) S.1 S.2.1 dX11_hear_9 (by decide) ?_
    refine lv_iconst (v := 1) S.1 S.2.1 dX11_hear_10 (by decide) ?_
    refine z_callSr S K w hA (c_X11_in l D cs ad F A T a1 (0 : Int32) (1 : Int32) (f_X11_in a1 (0 : Int32) (1 : Int32)) rfl) (cw_X11_72 S.2.2.2.2 ⟨Nat.le_of_ble_eq_true rfl, Nat.le_of_ble_eq_true rfl⟩) rfl hl.1 rfl (Nat.le_of_ble_eq_true rfl) ⟨Nat.zero_le _, Nat.zero_le _⟩ dX11_hear_11 (fun b3 H locs w => ?_)
    refine lv_if_ne (tgt := 19) S.1 S.2.1 dX11_hear_14 (by decide) (fun c4 => ?_) (fun c4 => ?_)
    · have h := og_f c4 h
      refine lv_aload_n S.1 S.2.1 dX11_hear_19 rfl (lv_at hl 0 rfl) ?_
      refine gM_0_24 S K w w752 dX11_hear_20 ?_
      refine lv_iconst (v := 1) S.1 S.2.1 dX11_hear_23 (by decide) ?_
      refine aM_15 S K w gk_1_102 dX11_hear_24 ?_
      refine lv_iload_n S.1 S.2.1 dX11_hear_25 rfl (lv_at hl 1 rfl) ?_
      refine lv_ishr S.1 S.2.1 dX11_hear_26 ?_
      refine lv_iconst (v := 1) S.1 S.2.1 dX11_hear_27 (by decide) ?_
      refine lv_iand S.1 S.2.1 dX11_hear_28 ?_
      refine lv_iload_n S.1 S.2.1 dX11_hear_29 rfl (lv_at hl 2 rfl) ?_
      refine lv_icmp_ne (tgt := 36) S.1 S.2.1 dX11_hear_30 (by decide) (fun c5 => ?_) (fun c5 => ?_)
      · have h := og_f c5 h
        refine lv_aload_n S.1 S.2.1 dX11_hear_36 rfl (lv_at hl 0 rfl) ?_
        obtain ⟨q6, e7, h⟩ := og_b h
        refine z_callVv S K w hA (c_X11_know l D cs ad F A T q6 e7) (cw_X11_166 S.2.2.2.2 ⟨Nat.le_of_ble_eq_true rfl, Nat.le_of_ble_eq_true rfl⟩) (z_recv K w 0 11 rfl rfl) rfl hl.1 rfl (Nat.le_of_ble_eq_true rfl) ⟨Nat.zero_le _, Nat.zero_le _⟩ dX11_hear_37 (fun H locs w => ?_)
        refine lv_aload_n S.1 S.2.1 dX11_hear_40 rfl (lv_at hl 0 rfl) ?_
        refine gM_0_24 S K w w752 dX11_hear_41 ?_
        refine lv_iconst (v := 1) S.1 S.2.1 dX11_hear_44 (by decide) ?_
        refine lv_dup2_11 S.1 S.2.1 dX11_hear_45 rfl rfl ?_
        refine aM_15 S K w gk_1_102 dX11_hear_46 ?_
        refine lv_iconst (v := 1) S.1 S.2.1 dX11_hear_47 (by decide) ?_
        refine lv_iload_n S.1 S.2.1 dX11_hear_48 rfl (lv_at hl 1 rfl) ?_
        refine lv_ishl S.1 S.2.1 dX11_hear_49 ?_
        refine lv_ixor S.1 S.2.1 dX11_hear_50 ?_
        refine sM_15 S K w gk_1_102 dX11_hear_51 (fun H locs w => ?_)
        refine lv_aload_n S.1 S.2.1 dX11_hear_52 rfl (lv_at hl 0 rfl) ?_
        obtain ⟨q9, e10, h⟩ := og_b h
        refine z_callVi S K w hA (c_X11_theCase l D cs ad q6.1 (zst q6.2.1 15 ((1 : Int32)).toNatClampNeg ((q6.2.1 15 ((1 : Int32)).toNatClampNeg) ^^^ ((1 : Int32) <<< (a0 &&& 31)))) q6.2.2 q9 e10) (cw_X11_169 S.2.2.2.2 ⟨Nat.le_of_ble_eq_true rfl, Nat.le_of_ble_eq_true rfl⟩) (z_recv K w 0 11 rfl rfl) rfl hl.1 rfl (Nat.le_of_ble_eq_true rfl) ⟨Nat.zero_le _, Nat.zero_le _⟩ dX11_hear_53 (fun b8 H locs w => ?_)
        exact z_reti S w hr hlk dX11_hear_56 trivial (Option.some.inj h).symm
      · have h := og_t c5 h
        refine lv_bipush (v := -2) S.1 S.2.1 dX11_hear_33 (by decide) ?_
        exact z_reti S w hr hlk dX11_hear_35 trivial (Option.some.inj h).symm
    · have h := og_t c4 h
      refine lv_iconst (v := -1) S.1 S.2.1 dX11_hear_17 (by decide) ?_
      exact z_reti S w hr hlk dX11_hear_18 trivial (Option.some.inj h).symm
set_option maxHeartbeats 4000000 in
set_option maxRecDepth 100000 in
theorem c_X11_days (l : Launch) (D : va_G) (cs : Nat → ClassId) (ad : Nat → Nat) (F : ZF) (A : ZA) (T : Int64) (a0 : Int32) (q : (Int32 × ZS)) (h : f_X11_days a0 F A T = some q) : zMi l D cs (MW cs ad) yX11_days cX11_days 3 (some .int) rm_X11_days ([.ref (ad 0), .int a0] : List Value) F A T q True := by
  refine z_enteri (by decide) (Nat.le_of_ble_eq_true rfl) ?_
  intro p e s m below meth c A0 ls S K w hA hr hlk hl
  have S : CallFix p m c cX11_days 3 s ([.ref (ad 0), .int a0] : List Value).toArray zWs RX11 := S
  have hl : lv_has ls 3 [(0, .ref (ad 0)), (1, .int a0)] := hl
  unfold f_X11_days at h
  refine lv_iload_n S.1 S.2.1 dX11_days_0 rfl (lv_at hl 1 rfl) ?_
  refine lv_iconst (v := 0) S.1 S.2.1 dX11_days_1 (by decide) ?_
  refine lv_bipush (v := 60) S.1 S.2.1 dX11_days_2 (by decide) ?_
  refine z_callSr S K w hA (c_X11_in l D cs ad F A T a0 (0 : Int32) (60 : Int32) (f_X11_in a0 (0 : Int32) (60 : Int32)) rfl) (cw_X11_72 S.2.2.2.2 ⟨Nat.le_of_ble_eq_true rfl, Nat.le_of_ble_eq_true rfl⟩) rfl hl.1 rfl (Nat.le_of_ble_eq_true rfl) ⟨Nat.zero_le _, Nat.zero_le _⟩ dX11_days_4 (fun b1 H locs w => ?_)
  refine lv_if_ne (tgt := 12) S.1 S.2.1 dX11_days_7 (by decide) (fun c2 => ?_) (fun c2 => ?_)
  · have h := og_f c2 h
    refine lv_aload_n S.1 S.2.1 dX11_days_12 rfl (lv_at hl 0 rfl) ?_
    refine gM_0_24 S K w w752 dX11_days_13 ?_
    refine lv_iconst (v := 2) S.1 S.2.1 dX11_days_16 (by decide) ?_
    refine aM_15 S K w gk_2_102 dX11_days_17 ?_
    refine lv_iload_n S.1 S.2.1 dX11_days_18 rfl (lv_at hl 1 rfl) ?_
    refine lv_icmp_ne (tgt := 25) S.1 S.2.1 dX11_days_19 (by decide) (fun c3 => ?_) (fun c3 => ?_)
    · have h := og_f c3 h
      refine lv_aload_n S.1 S.2.1 dX11_days_25 rfl (lv_at hl 0 rfl) ?_
      obtain ⟨q4, e5, h⟩ := og_b h
      refine z_callVv S K w hA (c_X11_know l D cs ad F A T q4 e5) (cw_X11_166 S.2.2.2.2 ⟨Nat.le_of_ble_eq_true rfl, Nat.le_of_ble_eq_true rfl⟩) (z_recv K w 0 11 rfl rfl) rfl hl.1 rfl (Nat.le_of_ble_eq_true rfl) ⟨Nat.zero_le _, Nat.zero_le _⟩ dX11_days_26 (fun H locs w => ?_)
      refine lv_aload_n S.1 S.2.1 dX11_days_29 rfl (lv_at hl 0 rfl) ?_
      refine gM_0_24 S K w w752 dX11_days_30 ?_
      refine lv_iconst (v := 2) S.1 S.2.1 dX11_days_33 (by decide) ?_
      refine aM_15 S K w gk_2_102 dX11_days_34 ?_
      refine lv_istore_n (lv' := [(2, .int (q4.2.1 15 ((2 : Int32)).toNatClampNeg)), (0, .ref (ad 0)), (1, .int a0)]) S.1 S.2.1 dX11_days_35 rfl hl (by decide) rfl (fun ls hl => ?_)
      refine lv_aload_n S.1 S.2.1 dX11_days_36 rfl (lv_at hl 1 rfl) ?_
      refine gM_0_24 S K w w752 dX11_days_37 ?_
      refine lv_iconst (v := 2) S.1 S.2.1 dX11_days_40 (by decide) ?_
      refine lv_iload_n S.1 S.2.1 dX11_days_41 rfl (lv_at hl 2 rfl) ?_
      refine sM_15 S K w gk_2_102 dX11_days_42 (fun H locs w => ?_)
      refine lv_iload_n S.1 S.2.1 dX11_days_43 rfl (lv_at hl 0 rfl) ?_
      exact z_reti S w hr hlk dX11_days_44 trivial (Option.some.inj h).symm
    · have h := og_t c3 h
      refine lv_bipush (v := -2) S.1 S.2.1 dX11_days_22 (by decide) ?_
      exact z_reti S w hr hlk dX11_days_24 trivial (Option.some.inj h).symm
  · have h := og_t c2 h
    refine lv_iconst (v := -1) S.1 S.2.1 dX11_days_10 (by decide) ?_
    exact z_reti S w hr hlk dX11_days_11 trivial (Option.some.inj h).symm
set_option maxHeartbeats 4000000 in
set_option maxRecDepth 100000 in
theorem c_X11_undo (l : Launch) (D : va_G) (cs : Nat → ClassId) (ad : Nat → Nat) (F : ZF) (A : ZA) (T : Int64) (q : (Int32 × ZS)) (h : f_X11_undo F A T = some q) : zMi l D cs (MW cs ad) yX11_undo cX11_undo 2 (some .int) rm_X11_undo ([.ref (ad 0)] : List Value) F A T q True := by
  refine z_enteri (by decide) (Nat.le_of_ble_eq_true rfl) ?_
  intro p e s m below meth c A0 ls S K w hA hr hlk hl
  have S : CallFix p m c cX11_undo 2 s ([.ref (ad 0)] : List Value).toArray zWs RX11 := S
  have hl : lv_has ls 2 [(0, .ref (ad 0))] := hl
  unfold f_X11_undo at h
  have j24 : ∀ (n24 : Nat) (x1 : Int32) (F : ZF) (A : ZA) (T : Int64), f_X11_undo_24 n24 x1 F A T = some q → ∀ (H : Heap) (locs : List Loc) (ls : Array Slot), lv_has ls 2 [(0, .ref (ad 0)), (1, .int x1)] → ZW D A0 s.heap (MW cs ad F A T) H locs → W p l e rm_X11_undo s m ([.ref (ad 0)] : List Value).toArray below meth c H locs 0 0 (zQi (MW cs ad) D A0 below ([.ref (ad 0)] : List Value) s q True) (F0 m 24 ls []) := by
    intro n24
    induction n24 with
    | zero =>
      intro x1 F A T h H locs ls hl w
      have h : (none : Option (Int32 × ZS)) = some q := h
      cases h
    | succ n24 ih24 =>
      intro x1 F A T h H locs ls hl w
      rw [f_X11_undo_24_s] at h
      refine lv_iload_n S.1 S.2.1 dX11_undo_24 rfl (lv_at hl 1 rfl) ?_
      refine lv_iconst (v := 3) S.1 S.2.1 dX11_undo_25 (by decide) ?_
      refine lv_icmp_ge (tgt := 58) S.1 S.2.1 dX11_undo_26 (by decide) (fun c1 => ?_) (fun c1 => ?_)
      · have h := og_t c1 h
        refine lv_aload_n S.1 S.2.1 dX11_undo_58 rfl (lv_at hl 0 rfl) ?_
        refine gM_0_24 S K w w752 dX11_undo_59 ?_
        refine lv_iconst (v := 3) S.1 S.2.1 dX11_undo_62 (by decide) ?_
        refine aM_15 S K w gk_3_102 dX11_undo_63 ?_
        exact z_reti S w hr hlk dX11_undo_64 trivial (Option.some.inj h).symm
      · have h := og_f c1 h
        refine lv_aload_n S.1 S.2.1 dX11_undo_29 rfl (lv_at hl 0 rfl) ?_
        refine gM_0_24 S K w w752 dX11_undo_30 ?_
        refine lv_iload_n S.1 S.2.1 dX11_undo_33 rfl (lv_at hl 1 rfl) ?_
        refine lv_aload_n S.1 S.2.1 dX11_undo_34 rfl (lv_at hl 0 rfl) ?_
        refine gM_0_24 S K w w752 dX11_undo_35 ?_
        refine lv_iconst (v := 4) S.1 S.2.1 dX11_undo_38 (by decide) ?_
        refine lv_iconst (v := 3) S.1 S.2.1 dX11_undo_39 (by decide) ?_
        refine lv_aload_n S.1 S.2.1 dX11_undo_40 rfl (lv_at hl 0 rfl) ?_
        refine gM_0_24 S K w w752 dX11_undo_41 ?_
        refine lv_iconst (v := 3) S.1 S.2.1 dX11_undo_44 (by decide) ?_
        refine aM_15 S K w gk_3_102 dX11_undo_45 ?_
        refine lv_imul S.1 S.2.1 dX11_undo_46 ?_
        refine lv_iadd S.1 S.2.1 dX11_undo_47 ?_
        refine lv_iload_n S.1 S.2.1 dX11_undo_48 rfl (lv_at hl 1 rfl) ?_
        refine lv_iadd S.1 S.2.1 dX11_undo_49 ?_
        obtain ⟨g2, h⟩ := og_g h
        refine aM_15 S K w g2 dX11_undo_50 ?_
        obtain ⟨g3, h⟩ := og_g h
        refine sM_15 S K w g3 dX11_undo_51 (fun H locs w => ?_)
        refine lv_iinc (v := (x1 + (1 : Int32))) (lv' := [(1, .int (x1 + (1 : Int32))), (0, .ref (ad 0))]) S.1 S.2.1 dX11_undo_52 hl (k := 1) rfl rfl (by decide) rfl (fun ls hl => ?_)
        refine lv_goto (tgt := 24) S.1 S.2.1 dX11_undo_55 (by decide) ?_
        exact ih24 _ _ _ _ h _ _ _ (lv_sub hl [1, 0] rfl) w
  refine lv_aload_n S.1 S.2.1 dX11_undo_0 rfl (lv_at hl 0 rfl) ?_
  refine gM_0_24 S K w w752 dX11_undo_1 ?_
  refine lv_iconst (v := 3) S.1 S.2.1 dX11_undo_4 (by decide) ?_
  refine aM_15 S K w gk_3_102 dX11_undo_5 ?_
  refine lv_if_ne (tgt := 12) S.1 S.2.1 dX11_undo_6 (by decide) (fun c4 => ?_) (fun c4 => ?_)
  · have h := og_f c4 h
    refine lv_aload_n S.1 S.2.1 dX11_undo_12 rfl (lv_at hl 0 rfl) ?_
    refine gM_0_24 S K w w752 dX11_undo_13 ?_
    refine lv_iconst (v := 3) S.1 S.2.1 dX11_undo_16 (by decide) ?_
    refine lv_dup2_11 S.1 S.2.1 dX11_undo_17 rfl rfl ?_
    refine aM_15 S K w gk_3_102 dX11_undo_18 ?_
    refine lv_iconst (v := 1) S.1 S.2.1 dX11_undo_19 (by decide) ?_
    refine lv_isub S.1 S.2.1 dX11_undo_20 ?_
    refine sM_15 S K w gk_3_102 dX11_undo_21 (fun H locs w => ?_)
    refine lv_iconst (v := 0) S.1 S.2.1 dX11_undo_22 (by decide) ?_
    refine lv_istore_n (lv' := [(1, .int (0 : Int32)), (0, .ref (ad 0))]) S.1 S.2.1 dX11_undo_23 rfl hl (by decide) rfl (fun ls hl => ?_)
    exact j24 1000 _ _ _ _ h _ _ _ (lv_sub hl [1, 0] rfl) w
  · have h := og_t c4 h
    refine lv_bipush (v := -2) S.1 S.2.1 dX11_undo_9 (by decide) ?_
    exact z_reti S w hr hlk dX11_undo_11 trivial (Option.some.inj h).symm
set_option maxHeartbeats 4000000 in
set_option maxRecDepth 100000 in
theorem c_X11_share (l : Launch) (D : va_G) (cs : Nat → ClassId) (ad : Nat → Nat) (F : ZF) (A : ZA) (T : Int64) (a0 a1 : Int32) (q : (Int32 × ZS)) (h : f_X11_share a0 a1 F A T = some q) : zMi l D cs (MW cs ad) yX11_share cX11_share 6 (some .int) rm_X11_share ([.ref (ad 0), .int a0, .int a1] : List Value) F A T q True := by
  refine z_enteri (by decide) (Nat.le_of_ble_eq_true rfl) ?_
  intro p e s m below meth c A0 ls S K w hA hr hlk hl
  have S : CallFix p m c cX11_share 6 s ([.ref (ad 0), .int a0, .int a1] : List Value).toArray zWs RX11 := S
  have hl : lv_has ls 6 [(0, .ref (ad 0)), (1, .int a0), (2, .int a1)] := hl
  unfold f_X11_share at h
  have j52 : ∀ (n52 : Nat) (x1 x2 x3 x4 : Int32) (F : ZF) (A : ZA) (T : Int64), f_X11_share_52 n52 x1 x2 x3 x4 F A T = some q → ∀ (H : Heap) (locs : List Loc) (ls : Array Slot), lv_has ls 6 [(0, .ref (ad 0)), (1, .int x1), (2, .int x2), (3, .int x3), (4, .int x4)] → ZW D A0 s.heap (MW cs ad F A T) H locs → W p l e rm_X11_share s m ([.ref (ad 0), .int a0, .int a1] : List Value).toArray below meth c H locs 0 0 (zQi (MW cs ad) D A0 below ([.ref (ad 0), .int a0, .int a1] : List Value) s q True) (F0 m 52 ls []) := by
    intro n52
    induction n52 with
    | zero =>
      intro x1 x2 x3 x4 F A T h H locs ls hl w
      have h : (none : Option (Int32 × ZS)) = some q := h
      cases h
    | succ n52 ih52 =>
      intro x1 x2 x3 x4 F A T h H locs ls hl w
      rw [f_X11_share_52_s] at h
      refine lv_iload S.1 S.2.1 dX11_share_52 (lv_at hl 4 rfl) ?_
      refine lv_if_eq (tgt := 73) S.1 S.2.1 dX11_share_54 (by decide) (fun c1 => ?_) (fun c1 => ?_)
      · have h := og_t c1 h
        refine lv_iload_n S.1 S.2.1 dX11_share_73 rfl (lv_at hl 2 rfl) ?_
        refine lv_if_ne (tgt := 88) S.1 S.2.1 dX11_share_74 (by decide) (fun c2 => ?_) (fun c2 => ?_)
        · have h := og_f c2 h
          refine lv_aload_n S.1 S.2.1 dX11_share_88 rfl (lv_at hl 0 rfl) ?_
          refine gM_0_27 S K w w755 dX11_share_89 ?_
          refine lv_iload_n S.1 S.2.1 dX11_share_92 rfl (lv_at hl 3 rfl) ?_
          obtain ⟨g3, h⟩ := og_d h
          refine lv_idiv S.1 S.2.1 dX11_share_93 g3 ?_
          exact z_reti S w hr hlk dX11_share_94 trivial (Option.some.inj h).symm
        · have h := og_t c2 h
          refine lv_aload_n S.1 S.2.1 dX11_share_77 rfl (lv_at hl 0 rfl) ?_
          refine gM_0_26 S K w w754 dX11_share_78 ?_
          refine lv_iload_n S.1 S.2.1 dX11_share_81 rfl (lv_at hl 1 rfl) ?_
          obtain ⟨g4, h⟩ := og_g h
          refine aM_17 S K w g4 dX11_share_82 ?_
          refine lv_iload_n S.1 S.2.1 dX11_share_83 rfl (lv_at hl 3 rfl) ?_
          obtain ⟨g5, h⟩ := og_d h
          refine lv_idiv S.1 S.2.1 dX11_share_84 g5 ?_
          refine lv_goto (tgt := 94) S.1 S.2.1 dX11_share_85 (by decide) ?_
          exact z_reti S w hr hlk dX11_share_94 trivial (Option.some.inj h).symm
      · have h := og_f c1 h
        refine lv_iload_n S.1 S.2.1 dX11_share_57 rfl (lv_at hl 3 rfl) ?_
        refine lv_iload S.1 S.2.1 dX11_share_58 (lv_at hl 4 rfl) ?_
        obtain ⟨g6, h⟩ := og_d h
        refine lv_irem S.1 S.2.1 dX11_share_60 g6 ?_
        refine lv_istore (lv' := [(5, .int (x3 - x3 / x4 * x4)), (0, .ref (ad 0)), (1, .int x1), (2, .int x2), (3, .int x3), (4, .int x4)]) S.1 S.2.1 dX11_share_61 hl (by decide) rfl (fun ls hl => ?_)
        refine lv_iload S.1 S.2.1 dX11_share_63 (lv_at hl 5 rfl) ?_
        refine lv_istore_n (lv' := [(3, .int x4), (5, .int (x3 - x3 / x4 * x4)), (0, .ref (ad 0)), (1, .int x1), (2, .int x2), (4, .int x4)]) S.1 S.2.1 dX11_share_65 rfl hl (by decide) rfl (fun ls hl => ?_)
        refine lv_iload S.1 S.2.1 dX11_share_66 (lv_at hl 1 rfl) ?_
        refine lv_istore (lv' := [(4, .int (x3 - x3 / x4 * x4)), (3, .int x4), (5, .int (x3 - x3 / x4 * x4)), (0, .ref (ad 0)), (1, .int x1), (2, .int x2)]) S.1 S.2.1 dX11_share_68 hl (by decide) rfl (fun ls hl => ?_)
        refine lv_goto (tgt := 52) S.1 S.2.1 dX11_share_70 (by decide) ?_
        exact ih52 _ _ _ _ _ _ _ h _ _ _ (lv_sub hl [3, 4, 5, 1, 0] rfl) w
  refine lv_aload_n S.1 S.2.1 dX11_share_0 rfl (lv_at hl 0 rfl) ?_
  refine lv_iload_n S.1 S.2.1 dX11_share_1 rfl (lv_at hl 1 rfl) ?_
  refine z_callVr S K w hA (c_X11_isSuspect l D cs ad F A T a0 (f_X11_isSuspect a0 F A T) rfl) (cw_X11_153 S.2.2.2.2 ⟨Nat.le_of_ble_eq_true rfl, Nat.le_of_ble_eq_true rfl⟩) (z_recv K w 0 11 rfl rfl) rfl hl.1 rfl (Nat.le_of_ble_eq_true rfl) ⟨Nat.zero_le _, Nat.zero_le _⟩ dX11_share_2 (fun b7 H locs w => ?_)
  refine lv_if_eq (tgt := 17) S.1 S.2.1 dX11_share_5 (by decide) (fun c8 => ?_) (fun c8 => ?_)
  · have h := og_t c8 h
    refine lv_iconst (v := -1) S.1 S.2.1 dX11_share_17 (by decide) ?_
    exact z_reti S w hr hlk dX11_share_18 trivial (Option.some.inj h).symm
  · have h := og_f c8 h
    refine lv_iload_n S.1 S.2.1 dX11_share_8 rfl (lv_at hl 2 rfl) ?_
    refine lv_iconst (v := 0) S.1 S.2.1 dX11_share_9 (by decide) ?_
    refine lv_iconst (v := 1) S.1 S.2.1 dX11_share_10 (by decide) ?_
    refine z_callSr S K w hA (c_X11_in l D cs ad F A T a1 (0 : Int32) (1 : Int32) (f_X11_in a1 (0 : Int32) (1 : Int32)) rfl) (cw_X11_72 S.2.2.2.2 ⟨Nat.le_of_ble_eq_true rfl, Nat.le_of_ble_eq_true rfl⟩) rfl hl.1 rfl (Nat.le_of_ble_eq_true rfl) ⟨Nat.zero_le _, Nat.zero_le _⟩ dX11_share_11 (fun b9 H locs w => ?_)
    refine lv_if_ne (tgt := 19) S.1 S.2.1 dX11_share_14 (by decide) (fun c10 => ?_) (fun c10 => ?_)
    · have h := og_f c10 h
      refine lv_aload_n S.1 S.2.1 dX11_share_19 rfl (lv_at hl 0 rfl) ?_
      refine lv_aload_n S.1 S.2.1 dX11_share_20 rfl (lv_at hl 0 rfl) ?_
      refine gM_0_24 S K w w752 dX11_share_21 ?_
      refine lv_iconst (v := 0) S.1 S.2.1 dX11_share_24 (by decide) ?_
      refine aM_15 S K w gk_0_102 dX11_share_25 ?_
      obtain ⟨q11, e12, h⟩ := og_b h
      refine z_callVv S K w hA (c_X11_hold l D cs ad F A T (A 15 ((0 : Int32)).toNatClampNeg) q11 e12) (cw_X11_147 S.2.2.2.2 ⟨Nat.le_of_ble_eq_true rfl, Nat.le_of_ble_eq_true rfl⟩) (z_recv K w 0 11 rfl rfl) rfl hl.1 rfl (Nat.le_of_ble_eq_true rfl) ⟨Nat.zero_le _, Nat.zero_le _⟩ dX11_share_26 (fun H locs w => ?_)
      refine lv_aload_n S.1 S.2.1 dX11_share_29 rfl (lv_at hl 0 rfl) ?_
      refine gM_0_27 S K w w755 dX11_share_30 ?_
      refine lv_if_ne (tgt := 39) S.1 S.2.1 dX11_share_33 (by decide) (fun c13 => ?_) (fun c13 => ?_)
      · have h := og_f c13 h
        refine lv_aload_n S.1 S.2.1 dX11_share_39 rfl (lv_at hl 0 rfl) ?_
        refine gM_0_26 S K w w754 dX11_share_40 ?_
        refine lv_iload_n S.1 S.2.1 dX11_share_43 rfl (lv_at hl 1 rfl) ?_
        obtain ⟨g14, h⟩ := og_g h
        refine aM_17 S K w g14 dX11_share_44 ?_
        refine lv_istore_n (lv' := [(3, .int (q11.2.1 17 (a0).toNatClampNeg)), (0, .ref (ad 0)), (1, .int a0), (2, .int a1)]) S.1 S.2.1 dX11_share_45 rfl hl (by decide) rfl (fun ls hl => ?_)
        refine lv_aload_n S.1 S.2.1 dX11_share_46 rfl (lv_at hl 1 rfl) ?_
        refine gM_0_27 S K w w755 dX11_share_47 ?_
        refine lv_istore (lv' := [(4, .int (q11.1 9)), (3, .int (q11.2.1 17 (a0).toNatClampNeg)), (0, .ref (ad 0)), (1, .int a0), (2, .int a1)]) S.1 S.2.1 dX11_share_50 hl (by decide) rfl (fun ls hl => ?_)
        exact j52 1000 _ _ _ _ _ _ _ h _ _ _ (lv_sub hl [2, 3, 4, 1, 0] rfl) w
      · have h := og_t c13 h
        refine lv_bipush (v := -2) S.1 S.2.1 dX11_share_36 (by decide) ?_
        exact z_reti S w hr hlk dX11_share_38 trivial (Option.some.inj h).symm
    · have h := og_t c10 h
      refine lv_iconst (v := -1) S.1 S.2.1 dX11_share_17 (by decide) ?_
      exact z_reti S w hr hlk dX11_share_18 trivial (Option.some.inj h).symm
set_option maxHeartbeats 4000000 in
set_option maxRecDepth 100000 in
theorem c_X11_allServe (l : Launch) (D : va_G) (cs : Nat → ClassId) (ad : Nat → Nat) (F : ZF) (A : ZA) (T : Int64) (q : (Int32 × ZS)) (h : f_X11_allServe F A T = some q) : zMi l D cs (MW cs ad) yX11_allServe cX11_allServe 3 (some .int) rm_X11_allServe ([.ref (ad 0)] : List Value) F A T q True := by
  refine z_enteri (by decide) (Nat.le_of_ble_eq_true rfl) ?_
  intro p e s m below meth c A0 ls S K w hA hr hlk hl
  have S : CallFix p m c cX11_allServe 3 s ([.ref (ad 0)] : List Value).toArray zWs RX11 := S
  have hl : lv_has ls 3 [(0, .ref (ad 0))] := hl
  unfold f_X11_allServe at h
  have j8 : ∀ (n8 : Nat) (x1 x2 : Int32) (F : ZF) (A : ZA) (T : Int64), f_X11_allServe_8 n8 x1 x2 F A T = some q → ∀ (H : Heap) (locs : List Loc) (ls : Array Slot), lv_has ls 3 [(0, .ref (ad 0)), (1, .int x1), (2, .int x2)] → ZW D A0 s.heap (MW cs ad F A T) H locs → W p l e rm_X11_allServe s m ([.ref (ad 0)] : List Value).toArray below meth c H locs 0 0 (zQi (MW cs ad) D A0 below ([.ref (ad 0)] : List Value) s q True) (F0 m 8 ls []) := by
    intro n8
    induction n8 with
    | zero =>
      intro x1 x2 F A T h H locs ls hl w
      have h : (none : Option (Int32 × ZS)) = some q := h
      cases h
    | succ n8 ih8 =>
      intro x1 x2 F A T h H locs ls hl w
      rw [f_X11_allServe_8_s] at h
      refine lv_iload_n S.1 S.2.1 dX11_allServe_8 rfl (lv_at hl 2 rfl) ?_
      refine lv_aload_n S.1 S.2.1 dX11_allServe_9 rfl (lv_at hl 0 rfl) ?_
      refine gM_0_3 S K w w731 dX11_allServe_10 ?_
      refine lv_iconst (v := 0) S.1 S.2.1 dX11_allServe_13 (by decide) ?_
      refine aM_2 S K w gk_0_2 dX11_allServe_14 ?_
      refine lv_icmp_ge (tgt := 33) S.1 S.2.1 dX11_allServe_15 (by decide) (fun c1 => ?_) (fun c1 => ?_)
      · have h := og_t c1 h
        refine lv_iload_n S.1 S.2.1 dX11_allServe_33 rfl (lv_at hl 1 rfl) ?_
        exact z_reti S w hr hlk dX11_allServe_34 trivial (Option.some.inj h).symm
      · have h := og_f c1 h
        refine lv_iload_n S.1 S.2.1 dX11_allServe_18 rfl (lv_at hl 1 rfl) ?_
        refine lv_aload_n S.1 S.2.1 dX11_allServe_19 rfl (lv_at hl 0 rfl) ?_
        refine gM_0_28 S K w w756 dX11_allServe_20 ?_
        refine lv_iload_n S.1 S.2.1 dX11_allServe_23 rfl (lv_at hl 2 rfl) ?_
        obtain ⟨g2, h⟩ := og_g h
        refine aM_18 S K w g2 dX11_allServe_24 ?_
        refine lv_iadd S.1 S.2.1 dX11_allServe_25 ?_
        refine lv_istore_n (lv' := [(1, .int (x1 + (A 18 (x2).toNatClampNeg))), (0, .ref (ad 0)), (2, .int x2)]) S.1 S.2.1 dX11_allServe_26 rfl hl (by decide) rfl (fun ls hl => ?_)
        refine lv_iinc (v := (x2 + (1 : Int32))) (lv' := [(2, .int (x2 + (1 : Int32))), (1, .int (x1 + (A 18 (x2).toNatClampNeg))), (0, .ref (ad 0))]) S.1 S.2.1 dX11_allServe_27 hl (k := 2) rfl rfl (by decide) rfl (fun ls hl => ?_)
        refine lv_goto (tgt := 8) S.1 S.2.1 dX11_allServe_30 (by decide) ?_
        exact ih8 _ _ _ _ _ h _ _ _ (lv_sub hl [2, 1, 0] rfl) w
  refine lv_aload_n S.1 S.2.1 dX11_allServe_0 rfl (lv_at hl 0 rfl) ?_
  obtain ⟨q3, e4, h⟩ := og_b h
  refine z_callVv S K w hA (c_X11_asNow l D cs ad F A T q3 e4) (cw_X11_156 S.2.2.2.2 ⟨Nat.le_of_ble_eq_true rfl, Nat.le_of_ble_eq_true rfl⟩) (z_recv K w 0 11 rfl rfl) rfl hl.1 rfl (Nat.le_of_ble_eq_true rfl) ⟨Nat.zero_le _, Nat.zero_le _⟩ dX11_allServe_1 (fun H locs w => ?_)
  refine lv_iconst (v := 0) S.1 S.2.1 dX11_allServe_4 (by decide) ?_
  refine lv_istore_n (lv' := [(1, .int (0 : Int32)), (0, .ref (ad 0))]) S.1 S.2.1 dX11_allServe_5 rfl hl (by decide) rfl (fun ls hl => ?_)
  refine lv_iconst (v := 0) S.1 S.2.1 dX11_allServe_6 (by decide) ?_
  refine lv_istore_n (lv' := [(2, .int (0 : Int32)), (1, .int (0 : Int32)), (0, .ref (ad 0))]) S.1 S.2.1 dX11_allServe_7 rfl hl (by decide) rfl (fun ls hl => ?_)
  exact j8 1000 _ _ _ _ _ h _ _ _ (lv_sub hl [2, 1, 0] rfl) w
set_option maxHeartbeats 4000000 in
set_option maxRecDepth 100000 in
theorem c_X11_now (l : Launch) (D : va_G) (cs : Nat → ClassId) (ad : Nat → Nat) (F : ZF) (A : ZA) (T : Int64) (a0 : Int32) (q : (Int32 × ZS)) (h : f_X11_now a0 F A T = some q) : zMi l D cs (MW cs ad) yX11_now cX11_now 2 (some .int) rm_X11_now ([.ref (ad 0), .int a0] : List Value) F A T q True := by
  refine z_enteri (by decide) (Nat.le_of_ble_eq_true rfl) ?_
  intro p e s m below meth c A0 ls S K w hA hr hlk hl
  have S : CallFix p m c cX11_now 2 s ([.ref (ad 0), .int a0] : List Value).toArray zWs RX11 := S
  have hl : lv_has ls 2 [(0, .ref (ad 0)), (1, .int a0)] := hl
  unfold f_X11_now at h
  refine lv_iload_n S.1 S.2.1 dX11_now_0 rfl (lv_at hl 1 rfl) ?_
  by_cases c1 : a0 = (0 : Int32)
  · have h := og_t c1 h
    refine lv_tableIn (tgt := 36) S.1 S.2.1 dX11_now_1 (by rw [c1]; decide) (by rw [c1]; decide) (off := 35) (by rw [c1]; decide) (by decide) ?_
    refine lv_aload_n S.1 S.2.1 dX11_now_36 rfl (lv_at hl 0 rfl) ?_
    obtain ⟨q3, e4, h⟩ := og_b h
    refine z_callVi S K w hA (c_X11_theCase l D cs ad F A T q3 e4) (cw_X11_169 S.2.2.2.2 ⟨Nat.le_of_ble_eq_true rfl, Nat.le_of_ble_eq_true rfl⟩) (z_recv K w 0 11 rfl rfl) rfl hl.1 rfl (Nat.le_of_ble_eq_true rfl) ⟨Nat.zero_le _, Nat.zero_le _⟩ dX11_now_37 (fun b2 H locs w => ?_)
    exact z_reti S w hr hlk dX11_now_40 trivial (Option.some.inj h).symm
  · have h := og_f c1 h
    by_cases c5 : a0 = (1 : Int32)
    · have h := og_t c5 h
      refine lv_tableIn (tgt := 41) S.1 S.2.1 dX11_now_1 (by rw [c5]; decide) (by rw [c5]; decide) (off := 40) (by rw [c5]; decide) (by decide) ?_
      refine lv_aload_n S.1 S.2.1 dX11_now_41 rfl (lv_at hl 0 rfl) ?_
      refine gM_0_24 S K w w752 dX11_now_42 ?_
      refine lv_iconst (v := 0) S.1 S.2.1 dX11_now_45 (by decide) ?_
      refine aM_15 S K w gk_0_102 dX11_now_46 ?_
      exact z_reti S w hr hlk dX11_now_47 trivial (Option.some.inj h).symm
    · have h := og_f c5 h
      by_cases c6 : a0 = (2 : Int32)
      · have h := og_t c6 h
        refine lv_tableIn (tgt := 48) S.1 S.2.1 dX11_now_1 (by rw [c6]; decide) (by rw [c6]; decide) (off := 47) (by rw [c6]; decide) (by decide) ?_
        refine lv_aload_n S.1 S.2.1 dX11_now_48 rfl (lv_at hl 0 rfl) ?_
        refine gM_0_24 S K w w752 dX11_now_49 ?_
        refine lv_iconst (v := 1) S.1 S.2.1 dX11_now_52 (by decide) ?_
        refine aM_15 S K w gk_1_102 dX11_now_53 ?_
        exact z_reti S w hr hlk dX11_now_54 trivial (Option.some.inj h).symm
      · have h := og_f c6 h
        by_cases c7 : a0 = (3 : Int32)
        · have h := og_t c7 h
          refine lv_tableIn (tgt := 55) S.1 S.2.1 dX11_now_1 (by rw [c7]; decide) (by rw [c7]; decide) (off := 54) (by rw [c7]; decide) (by decide) ?_
          refine lv_aload_n S.1 S.2.1 dX11_now_55 rfl (lv_at hl 0 rfl) ?_
          refine gM_0_24 S K w w752 dX11_now_56 ?_
          refine lv_iconst (v := 2) S.1 S.2.1 dX11_now_59 (by decide) ?_
          refine aM_15 S K w gk_2_102 dX11_now_60 ?_
          exact z_reti S w hr hlk dX11_now_61 trivial (Option.some.inj h).symm
        · have h := og_f c7 h
          by_cases c8 : a0 = (4 : Int32)
          · have h := og_t c8 h
            refine lv_tableIn (tgt := 62) S.1 S.2.1 dX11_now_1 (by rw [c8]; decide) (by rw [c8]; decide) (off := 61) (by rw [c8]; decide) (by decide) ?_
            refine lv_aload_n S.1 S.2.1 dX11_now_62 rfl (lv_at hl 0 rfl) ?_
            obtain ⟨q10, e11, h⟩ := og_b h
            refine z_callVi S K w hA (c_X11_allServe l D cs ad F A T q10 e11) (cw_X11_172 S.2.2.2.2 ⟨Nat.le_of_ble_eq_true rfl, Nat.le_of_ble_eq_true rfl⟩) (z_recv K w 0 11 rfl rfl) rfl hl.1 rfl (Nat.le_of_ble_eq_true rfl) ⟨Nat.zero_le _, Nat.zero_le _⟩ dX11_now_63 (fun b9 H locs w => ?_)
            exact z_reti S w hr hlk dX11_now_66 trivial (Option.some.inj h).symm
          · have h := og_f c8 h
            refine lv_tableOut (tgt := 67) S.1 S.2.1 dX11_now_1 (by have := lv_neT (k := (0 : Int32)) (a := 0) c1 (by decide); have := lv_neT (k := (1 : Int32)) (a := 1) c5 (by decide); have := lv_neT (k := (2 : Int32)) (a := 2) c6 (by decide); have := lv_neT (k := (3 : Int32)) (a := 3) c7 (by decide); have := lv_neT (k := (4 : Int32)) (a := 4) c8 (by decide); omega) (by decide) ?_
            refine lv_iconst (v := -1) S.1 S.2.1 dX11_now_67 (by decide) ?_
            exact z_reti S w hr hlk dX11_now_68 trivial (Option.some.inj h).symm
set_option maxHeartbeats 4000000 in
set_option maxRecDepth 100000 in
theorem c_X11_isShare (l : Launch) (D : va_G) (cs : Nat → ClassId) (ad : Nat → Nat) (F : ZF) (A : ZA) (T : Int64) (a0 a1 a2 : Int32) (q : Int32) (h : f_X11_isShare a0 a1 a2 F A T = q) : zMi l D cs (MW cs ad) yX11_isShare cX11_isShare 4 (some .boolean) rm_X11_isShare ([.ref (ad 0), .int a0, .int a1, .int a2] : List Value) F A T ((q, F, A, T) : Int32 × ZS) (((q, F, A, T) : Int32 × ZS).1 &&& 1 = ((q, F, A, T) : Int32 × ZS).1) := by
  refine z_enteri (by decide) (Nat.le_of_ble_eq_true rfl) ?_
  intro p e s m below meth c A0 ls S K w hA hr hlk hl
  have S : CallFix p m c cX11_isShare 4 s ([.ref (ad 0), .int a0, .int a1, .int a2] : List Value).toArray zWs RX11 := S
  have hl : lv_has ls 4 [(0, .ref (ad 0)), (1, .int a0), (2, .int a1), (3, .int a2)] := hl
  unfold f_X11_isShare at h
  refine lv_aload_n S.1 S.2.1 dX11_isShare_0 rfl (lv_at hl 0 rfl) ?_
  refine lv_iload_n S.1 S.2.1 dX11_isShare_1 rfl (lv_at hl 1 rfl) ?_
  refine z_callVr S K w hA (c_X11_isSuspect l D cs ad F A T a0 (f_X11_isSuspect a0 F A T) rfl) (cw_X11_153 S.2.2.2.2 ⟨Nat.le_of_ble_eq_true rfl, Nat.le_of_ble_eq_true rfl⟩) (z_recv K w 0 11 rfl rfl) rfl hl.1 rfl (Nat.le_of_ble_eq_true rfl) ⟨Nat.zero_le _, Nat.zero_le _⟩ dX11_isShare_2 (fun b1 H locs w => ?_)
  refine lv_if_eq (tgt := 31) S.1 S.2.1 dX11_isShare_5 (by decide) (fun c2 => ?_) (fun c2 => ?_)
  · have h := og_t c2 h
    refine lv_iconst (v := 0) S.1 S.2.1 dX11_isShare_31 (by decide) ?_
    exact z_retz S w hr hlk dX11_isShare_32 (by decide) (by rw [← h])
  · have h := og_f c2 h
    refine lv_iload_n S.1 S.2.1 dX11_isShare_8 rfl (lv_at hl 3 rfl) ?_
    refine lv_iconst (v := 1) S.1 S.2.1 dX11_isShare_9 (by decide) ?_
    refine lv_bipush (v := 20) S.1 S.2.1 dX11_isShare_10 (by decide) ?_
    refine z_callSr S K w hA (c_X11_in l D cs ad F A T a2 (1 : Int32) (20 : Int32) (f_X11_in a2 (1 : Int32) (20 : Int32)) rfl) (cw_X11_72 S.2.2.2.2 ⟨Nat.le_of_ble_eq_true rfl, Nat.le_of_ble_eq_true rfl⟩) rfl hl.1 rfl (Nat.le_of_ble_eq_true rfl) ⟨Nat.zero_le _, Nat.zero_le _⟩ dX11_isShare_12 (fun b3 H locs w => ?_)
    refine lv_if_eq (tgt := 31) S.1 S.2.1 dX11_isShare_15 (by decide) (fun c4 => ?_) (fun c4 => ?_)
    · have h := og_t c4 h
      refine lv_iconst (v := 0) S.1 S.2.1 dX11_isShare_31 (by decide) ?_
      exact z_retz S w hr hlk dX11_isShare_32 (by decide) (by rw [← h])
    · have h := og_f c4 h
      refine lv_iload_n S.1 S.2.1 dX11_isShare_18 rfl (lv_at hl 2 rfl) ?_
      refine lv_iconst (v := 0) S.1 S.2.1 dX11_isShare_19 (by decide) ?_
      refine lv_iload_n S.1 S.2.1 dX11_isShare_20 rfl (lv_at hl 3 rfl) ?_
      refine z_callSr S K w hA (c_X11_in l D cs ad F A T a1 (0 : Int32) a2 (f_X11_in a1 (0 : Int32) a2) rfl) (cw_X11_72 S.2.2.2.2 ⟨Nat.le_of_ble_eq_true rfl, Nat.le_of_ble_eq_true rfl⟩) rfl hl.1 rfl (Nat.le_of_ble_eq_true rfl) ⟨Nat.zero_le _, Nat.zero_le _⟩ dX11_isShare_21 (fun b5 H locs w => ?_)
      refine lv_if_eq (tgt := 31) S.1 S.2.1 dX11_isShare_24 (by decide) (fun c6 => ?_) (fun c6 => ?_)
      · have h := og_t c6 h
        refine lv_iconst (v := 0) S.1 S.2.1 dX11_isShare_31 (by decide) ?_
        exact z_retz S w hr hlk dX11_isShare_32 (by decide) (by rw [← h])
      · have h := og_f c6 h
        refine lv_iconst (v := 1) S.1 S.2.1 dX11_isShare_27 (by decide) ?_
        refine lv_goto (tgt := 32) S.1 S.2.1 dX11_isShare_28 (by decide) ?_
        exact z_retz S w hr hlk dX11_isShare_32 (by decide) (by rw [← h])
set_option maxHeartbeats 4000000 in
set_option maxRecDepth 100000 in
theorem c_X11_costOf (l : Launch) (D : va_G) (cs : Nat → ClassId) (ad : Nat → Nat) (F : ZF) (A : ZA) (T : Int64) (a0 : Int32) (q : Int32) (h : f_X11_costOf a0 F A T = some q) : zMi l D cs (MW cs ad) yX11_costOf cX11_costOf 4 (some .int) rm_X11_costOf ([.ref (ad 0), .int a0] : List Value) F A T ((q, F, A, T) : Int32 × ZS) True := by
  refine z_enteri (by decide) (Nat.le_of_ble_eq_true rfl) ?_
  intro p e s m below meth c A0 ls S K w hA hr hlk hl
  have S : CallFix p m c cX11_costOf 4 s ([.ref (ad 0), .int a0] : List Value).toArray zWs RX11 := S
  have hl : lv_has ls 4 [(0, .ref (ad 0)), (1, .int a0)] := hl
  unfold f_X11_costOf at h
  have j4 : ∀ (n4 : Nat) (x1 x2 x3 : Int32), f_X11_costOf_4 F A T n4 x1 x2 x3 = some q → ∀ (H : Heap) (locs : List Loc) (ls : Array Slot), lv_has ls 4 [(0, .ref (ad 0)), (1, .int x1), (2, .int x2), (3, .int x3)] → ZW D A0 s.heap (MW cs ad F A T) H locs → W p l e rm_X11_costOf s m ([.ref (ad 0), .int a0] : List Value).toArray below meth c H locs 0 0 (zQi (MW cs ad) D A0 below ([.ref (ad 0), .int a0] : List Value) s ((q, F, A, T) : Int32 × ZS) True) (F0 m 4 ls []) := by
    intro n4
    induction n4 with
    | zero =>
      intro x1 x2 x3 h H locs ls hl w
      have h : (none : Option Int32) = some q := h
      cases h
    | succ n4 ih4 =>
      intro x1 x2 x3 h H locs ls hl w
      rw [f_X11_costOf_4_s] at h
      refine lv_iload_n S.1 S.2.1 dX11_costOf_4 rfl (lv_at hl 3 rfl) ?_
      refine lv_aload_n S.1 S.2.1 dX11_costOf_5 rfl (lv_at hl 0 rfl) ?_
      refine gM_0_5 S K w w733 dX11_costOf_6 ?_
      refine lv_iconst (v := 0) S.1 S.2.1 dX11_costOf_9 (by decide) ?_
      refine aM_4 S K w gk_0_2 dX11_costOf_10 ?_
      refine lv_icmp_ge (tgt := 35) S.1 S.2.1 dX11_costOf_11 (by decide) (fun c1 => ?_) (fun c1 => ?_)
      · have h := og_t c1 h
        refine lv_iload_n S.1 S.2.1 dX11_costOf_35 rfl (lv_at hl 2 rfl) ?_
        exact z_reti S w hr hlk dX11_costOf_36 trivial (by rw [← Option.some.inj h])
      · have h := og_f c1 h
        refine lv_iload_n S.1 S.2.1 dX11_costOf_14 rfl (lv_at hl 2 rfl) ?_
        refine lv_iload_n S.1 S.2.1 dX11_costOf_15 rfl (lv_at hl 1 rfl) ?_
        refine lv_iload_n S.1 S.2.1 dX11_costOf_16 rfl (lv_at hl 3 rfl) ?_
        refine lv_ishr S.1 S.2.1 dX11_costOf_17 ?_
        refine lv_iconst (v := 1) S.1 S.2.1 dX11_costOf_18 (by decide) ?_
        refine lv_iand S.1 S.2.1 dX11_costOf_19 ?_
        refine lv_aload_n S.1 S.2.1 dX11_costOf_20 rfl (lv_at hl 0 rfl) ?_
        refine gM_0_6 S K w w734 dX11_costOf_21 ?_
        refine lv_iload_n S.1 S.2.1 dX11_costOf_24 rfl (lv_at hl 3 rfl) ?_
        obtain ⟨g2, h⟩ := og_g h
        refine aM_5 S K w g2 dX11_costOf_25 ?_
        refine lv_imul S.1 S.2.1 dX11_costOf_26 ?_
        refine lv_iadd S.1 S.2.1 dX11_costOf_27 ?_
        refine lv_istore_n (lv' := [(2, .int (x2 + (((x1 >>> (x3 &&& 31)) &&& (1 : Int32)) * (A 5 (x3).toNatClampNeg)))), (0, .ref (ad 0)), (1, .int x1), (3, .int x3)]) S.1 S.2.1 dX11_costOf_28 rfl hl (by decide) rfl (fun ls hl => ?_)
        refine lv_iinc (v := (x3 + (1 : Int32))) (lv' := [(3, .int (x3 + (1 : Int32))), (2, .int (x2 + (((x1 >>> (x3 &&& 31)) &&& (1 : Int32)) * (A 5 (x3).toNatClampNeg)))), (0, .ref (ad 0)), (1, .int x1)]) S.1 S.2.1 dX11_costOf_29 hl (k := 3) rfl rfl (by decide) rfl (fun ls hl => ?_)
        refine lv_goto (tgt := 4) S.1 S.2.1 dX11_costOf_32 (by decide) ?_
        exact ih4 _ _ _ h _ _ _ (lv_sub hl [2, 3, 1, 0] rfl) w
  refine lv_iconst (v := 0) S.1 S.2.1 dX11_costOf_0 (by decide) ?_
  refine lv_istore_n (lv' := [(2, .int (0 : Int32)), (0, .ref (ad 0)), (1, .int a0)]) S.1 S.2.1 dX11_costOf_1 rfl hl (by decide) rfl (fun ls hl => ?_)
  refine lv_iconst (v := 0) S.1 S.2.1 dX11_costOf_2 (by decide) ?_
  refine lv_istore_n (lv' := [(3, .int (0 : Int32)), (2, .int (0 : Int32)), (0, .ref (ad 0)), (1, .int a0)]) S.1 S.2.1 dX11_costOf_3 rfl hl (by decide) rfl (fun ls hl => ?_)
  exact j4 1000 _ _ _ h _ _ _ (lv_sub hl [2, 3, 1, 0] rfl) w
